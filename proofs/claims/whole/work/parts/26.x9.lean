def mX9_within : MI := (yX9_within, cX9_within, 3, (some .boolean), { frames := 0, cells := 0, slots := 0, locals := 0 }, [])
theorem mw_X9_within : MW mX9_within 3 := ⟨w1218, w11, ⟨by decide, by decide⟩, by decide +kernel⟩
def fX9_within  (v0 : Int32) (v1 : Int32) (v2 : Int32) : AH → Option (Int32 × AH) := fun h =>
  if v0 < v1 then (
    rz (nI 0) (nI 0) h)
  else
  if v2 < v0 then (
    rz (nI 0) (nI 0) h)
  else
  rz (nI 1) (nI 1) h
theorem sX9_within  (v0 : Int32) (v1 : Int32) (v2 : Int32) : Sm mX9_within rI 0 0 0 [some (.int v0), some (.int v1), some (.int v2)] [] (fX9_within v0 v1 v2) := by
  unfold fX9_within
  refine S_iload_n (pc := 0) dX9_within_0 rfl ?_
  refine S_iload_n (pc := 1) dX9_within_1 rfl ?_
  refine S_icmplt (pc := 2) (tgt := 14) dX9_within_2 (by decide) ?_ ?_
  · refine S_iconst (pc := 14) (v := (nI 0)) dX9_within_14 kI_0 ?_
    exact S_zret (pc := 15) ⟨rfl, rfl⟩ rfl rfl dX9_within_15
  · refine S_iload_n (pc := 5) dX9_within_5 rfl ?_
    refine S_iload_n (pc := 6) dX9_within_6 rfl ?_
    refine S_icmpgt (pc := 7) (tgt := 14) dX9_within_7 (by decide) ?_ ?_
    · refine S_iconst (pc := 14) (v := (nI 0)) dX9_within_14 kI_0 ?_
      exact S_zret (pc := 15) ⟨rfl, rfl⟩ rfl rfl dX9_within_15
    · refine S_iconst (pc := 10) (v := (nI 1)) dX9_within_10 kI_1 ?_
      refine S_goto (pc := 11) (tgt := 15) dX9_within_11 (by decide) ?_
      exact S_zret (pc := 15) ⟨rfl, rfl⟩ rfl rfl dX9_within_15
theorem ktX9_within (v0 : Int32) (v1 : Int32) (v2 : Int32) : Ct mX9_within rI [.int v0, .int v1, .int v2] (fX9_within v0 v1 v2) := Ct.of (z := 0) pn_X9 rfl rfl rfl (sX9_within v0 v1 v2)
def mX9_makes : MI := (yX9_makes, cX9_makes, 8, none, { frames := 0, cells := 0, slots := 0, locals := 0 }, [])
theorem mw_X9_makes : MW mX9_makes 7 := ⟨w1200, w11, ⟨by decide, by decide⟩, by decide +kernel⟩
theorem mv_X9_makes : MV mX9_makes 9 := ⟨_, rfl, w1199, wp38⟩
def fX9_makes_112  (s0 : Nat) (s1 : Int32) (s2 : Int32) : AH → Option (Unit × AH) := fun h =>
  (stI s0 s1 s2 h).bind fun h =>
  some ((), h)
def fX9_makes_110  (s0 : Nat) (s1 : Int32) : AH → Option (Unit × AH) := fun h =>
  fX9_makes_112 s0 s1 (-2 : Int32) h
def fX9_makes_87  (r0 : Nat) (v1 : Int32) (v5 : Int32) (v7 : Int32) (s0 : Nat) (s1 : Int32) (s2 : Int32) : AH → Option (Unit × AH) := fun h =>
  (stI s0 s1 s2 h).bind fun h =>
  (gP 9 r0 15 h).bind fun a_17 =>
  if v1 = (nI 2) then (
    if v5 ≤ (nI 1) then (
      fX9_makes_110 a_17 (nI 7) h)
    else
    fX9_makes_112 a_17 (nI 7) v7 h)
  else
  fX9_makes_110 a_17 (nI 7) h
def fX9_makes_85  (r0 : Nat) (v1 : Int32) (v5 : Int32) (v7 : Int32) (s0 : Nat) (s1 : Int32) : AH → Option (Unit × AH) := fun h =>
  fX9_makes_87 r0 v1 v5 v7 s0 s1 (-2 : Int32) h
def fX9_makes_63  (r0 : Nat) (v1 : Int32) (v5 : Int32) (v6 : Int32) (v7 : Int32) (s0 : Nat) (s1 : Int32) (s2 : Int32) : AH → Option (Unit × AH) := fun h =>
  (stI s0 s1 s2 h).bind fun h =>
  (gP 9 r0 15 h).bind fun a_18 =>
  if v1 = (nI 2) then (
    if v5 ≤ 0 then (
      fX9_makes_85 r0 v1 v5 v7 a_18 (nI 6) h)
    else
    fX9_makes_87 r0 v1 v5 v7 a_18 (nI 6) v6 h)
  else
  fX9_makes_85 r0 v1 v5 v7 a_18 (nI 6) h
def fX9_makes_30  (r0 : Nat) (v1 : Int32) (v4 : Int32) (v5 : Int32) (v6 : Int32) (v7 : Int32) (s0 : Nat) (s1 : Int32) (s2 : Int32) : AH → Option (Unit × AH) := fun h =>
  (stI s0 s1 s2 h).bind fun h =>
  (gP 9 r0 15 h).bind fun a_19 =>
  (stI a_19 (nI 3) v4 h).bind fun h =>
  (gP 9 r0 15 h).bind fun a_20 =>
  (stI a_20 (nI 4) (nI 0) h).bind fun h =>
  (gP 9 r0 15 h).bind fun a_21 =>
  if v1 = (nI 2) then (
    fX9_makes_63 r0 v1 v5 v6 v7 a_21 (nI 5) v5 h)
  else
  fX9_makes_63 r0 v1 v5 v6 v7 a_21 (nI 5) (-2 : Int32) h
def fX9_makes  (r0 : Nat) (v1 : Int32) (v2 : Int32) (v3 : Int32) (v4 : Int32) (v5 : Int32) (v6 : Int32) (v7 : Int32) : AH → Option (Unit × AH) := fun h =>
  (gP 9 r0 15 h).bind fun a_22 =>
  (stI a_22 (nI 0) v1 h).bind fun h =>
  (gP 9 r0 15 h).bind fun a_23 =>
  (stI a_23 (nI 1) v2 h).bind fun h =>
  (gP 9 r0 15 h).bind fun a_24 =>
  if (nI 3) ≤ v1 then (
    fX9_makes_30 r0 v1 v4 v5 v6 v7 a_24 (nI 2) (-2 : Int32) h)
  else
  fX9_makes_30 r0 v1 v4 v5 v6 v7 a_24 (nI 2) v3 h
theorem sX9_makes_112  (s0 : Nat) (s1 : Int32) (s2 : Int32) : Sm mX9_makes rV 0 0 112 [none, none, none, none, none, none, none, none] [.int s2, .int s1, .ref s0] (fX9_makes_112 s0 s1 s2) := by
  unfold fX9_makes_112
  refine S_stI (pc := 112) dX9_makes_112 ?_
  exact S_vret (pc := 113) ⟨rfl, rfl⟩ rfl rfl dX9_makes_113
theorem sX9_makes_110  (s0 : Nat) (s1 : Int32) : Sm mX9_makes rV 0 0 110 [none, none, none, none, none, none, none, none] [.int s1, .ref s0] (fX9_makes_110 s0 s1) := by
  unfold fX9_makes_110
  refine S_bipush (pc := 110) (v := (-2 : Int32)) dX9_makes_110 kB_m2 ?_
  exact (sX9_makes_112 s0 s1 (-2 : Int32))
theorem sX9_makes_87  (r0 : Nat) (v1 : Int32) (v5 : Int32) (v7 : Int32) (s0 : Nat) (s1 : Int32) (s2 : Int32) : Sm mX9_makes rV 0 0 87 [some (.ref r0), some (.int v1), none, none, none, some (.int v5), none, some (.int v7)] [.int s2, .int s1, .ref s0] (fX9_makes_87 r0 v1 v5 v7 s0 s1 s2) := by
  unfold fX9_makes_87
  refine S_stI (pc := 87) dX9_makes_87 ?_
  refine S_aload_n (pc := 88) dX9_makes_88 rfl ?_
  refine S_gP (pc := 89) fl_X9_22 rfl dX9_makes_89 (fun a_17 => ?_)
  refine S_bipush (pc := 92) (v := (nI 7)) dX9_makes_92 kB_7 ?_
  refine S_iload_n (pc := 94) dX9_makes_94 rfl ?_
  refine S_iconst (pc := 95) (v := (nI 2)) dX9_makes_95 kI_2 ?_
  refine S_icmpne (pc := 96) (tgt := 110) dX9_makes_96 (by decide) ?_ ?_
  · exact (S_lv (lv0 := [none, none, none, none, none, none, none, none]) trivial (sX9_makes_110 a_17 (nI 7)))
  · refine S_iload (pc := 99) dX9_makes_99 rfl ?_
    refine S_iconst (pc := 101) (v := (nI 1)) dX9_makes_101 kI_1 ?_
    refine S_icmple (pc := 102) (tgt := 110) dX9_makes_102 (by decide) ?_ ?_
    · exact (S_lv (lv0 := [none, none, none, none, none, none, none, none]) trivial (sX9_makes_110 a_17 (nI 7)))
    · refine S_iload (pc := 105) dX9_makes_105 rfl ?_
      refine S_goto (pc := 107) (tgt := 112) dX9_makes_107 (by decide) ?_
      exact (S_lv (lv0 := [none, none, none, none, none, none, none, none]) trivial (sX9_makes_112 a_17 (nI 7) v7))
theorem sX9_makes_85  (r0 : Nat) (v1 : Int32) (v5 : Int32) (v7 : Int32) (s0 : Nat) (s1 : Int32) : Sm mX9_makes rV 0 0 85 [some (.ref r0), some (.int v1), none, none, none, some (.int v5), none, some (.int v7)] [.int s1, .ref s0] (fX9_makes_85 r0 v1 v5 v7 s0 s1) := by
  unfold fX9_makes_85
  refine S_bipush (pc := 85) (v := (-2 : Int32)) dX9_makes_85 kB_m2 ?_
  exact (sX9_makes_87 r0 v1 v5 v7 s0 s1 (-2 : Int32))
theorem sX9_makes_63  (r0 : Nat) (v1 : Int32) (v5 : Int32) (v6 : Int32) (v7 : Int32) (s0 : Nat) (s1 : Int32) (s2 : Int32) : Sm mX9_makes rV 0 0 63 [some (.ref r0), some (.int v1), none, none, none, some (.int v5), some (.int v6), some (.int v7)] [.int s2, .int s1, .ref s0] (fX9_makes_63 r0 v1 v5 v6 v7 s0 s1 s2) := by
  unfold fX9_makes_63
  refine S_stI (pc := 63) dX9_makes_63 ?_
  refine S_aload_n (pc := 64) dX9_makes_64 rfl ?_
  refine S_gP (pc := 65) fl_X9_22 rfl dX9_makes_65 (fun a_18 => ?_)
  refine S_bipush (pc := 68) (v := (nI 6)) dX9_makes_68 kB_6 ?_
  refine S_iload_n (pc := 70) dX9_makes_70 rfl ?_
  refine S_iconst (pc := 71) (v := (nI 2)) dX9_makes_71 kI_2 ?_
  refine S_icmpne (pc := 72) (tgt := 85) dX9_makes_72 (by decide) ?_ ?_
  · exact (S_lv (lv0 := [some (.ref r0), some (.int v1), none, none, none, some (.int v5), none, some (.int v7)]) (And.intro rfl (And.intro rfl (And.intro rfl (And.intro rfl trivial)))) (sX9_makes_85 r0 v1 v5 v7 a_18 (nI 6)))
  · refine S_iload (pc := 75) dX9_makes_75 rfl ?_
    refine S_ifle (pc := 77) (tgt := 85) dX9_makes_77 (by decide) ?_ ?_
    · exact (S_lv (lv0 := [some (.ref r0), some (.int v1), none, none, none, some (.int v5), none, some (.int v7)]) (And.intro rfl (And.intro rfl (And.intro rfl (And.intro rfl trivial)))) (sX9_makes_85 r0 v1 v5 v7 a_18 (nI 6)))
    · refine S_iload (pc := 80) dX9_makes_80 rfl ?_
      refine S_goto (pc := 82) (tgt := 87) dX9_makes_82 (by decide) ?_
      exact (S_lv (lv0 := [some (.ref r0), some (.int v1), none, none, none, some (.int v5), none, some (.int v7)]) (And.intro rfl (And.intro rfl (And.intro rfl (And.intro rfl trivial)))) (sX9_makes_87 r0 v1 v5 v7 a_18 (nI 6) v6))
theorem sX9_makes_30  (r0 : Nat) (v1 : Int32) (v4 : Int32) (v5 : Int32) (v6 : Int32) (v7 : Int32) (s0 : Nat) (s1 : Int32) (s2 : Int32) : Sm mX9_makes rV 0 0 30 [some (.ref r0), some (.int v1), none, none, some (.int v4), some (.int v5), some (.int v6), some (.int v7)] [.int s2, .int s1, .ref s0] (fX9_makes_30 r0 v1 v4 v5 v6 v7 s0 s1 s2) := by
  unfold fX9_makes_30
  refine S_stI (pc := 30) dX9_makes_30 ?_
  refine S_aload_n (pc := 31) dX9_makes_31 rfl ?_
  refine S_gP (pc := 32) fl_X9_22 rfl dX9_makes_32 (fun a_19 => ?_)
  refine S_iconst (pc := 35) (v := (nI 3)) dX9_makes_35 kI_3 ?_
  refine S_iload (pc := 36) dX9_makes_36 rfl ?_
  refine S_stI (pc := 38) dX9_makes_38 ?_
  refine S_aload_n (pc := 39) dX9_makes_39 rfl ?_
  refine S_gP (pc := 40) fl_X9_22 rfl dX9_makes_40 (fun a_20 => ?_)
  refine S_iconst (pc := 43) (v := (nI 4)) dX9_makes_43 kI_4 ?_
  refine S_iconst (pc := 44) (v := (nI 0)) dX9_makes_44 kI_0 ?_
  refine S_stI (pc := 45) dX9_makes_45 ?_
  refine S_aload_n (pc := 46) dX9_makes_46 rfl ?_
  refine S_gP (pc := 47) fl_X9_22 rfl dX9_makes_47 (fun a_21 => ?_)
  refine S_iconst (pc := 50) (v := (nI 5)) dX9_makes_50 kI_5 ?_
  refine S_iload_n (pc := 51) dX9_makes_51 rfl ?_
  refine S_iconst (pc := 52) (v := (nI 2)) dX9_makes_52 kI_2 ?_
  refine S_icmpne (pc := 53) (tgt := 61) dX9_makes_53 (by decide) ?_ ?_
  · refine S_bipush (pc := 61) (v := (-2 : Int32)) dX9_makes_61 kB_m2 ?_
    exact (S_lv (lv0 := [some (.ref r0), some (.int v1), none, none, none, some (.int v5), some (.int v6), some (.int v7)]) (And.intro rfl (And.intro rfl (And.intro rfl (And.intro rfl (And.intro rfl trivial))))) (sX9_makes_63 r0 v1 v5 v6 v7 a_21 (nI 5) (-2 : Int32)))
  · refine S_iload (pc := 56) dX9_makes_56 rfl ?_
    refine S_goto (pc := 58) (tgt := 63) dX9_makes_58 (by decide) ?_
    exact (S_lv (lv0 := [some (.ref r0), some (.int v1), none, none, none, some (.int v5), some (.int v6), some (.int v7)]) (And.intro rfl (And.intro rfl (And.intro rfl (And.intro rfl (And.intro rfl trivial))))) (sX9_makes_63 r0 v1 v5 v6 v7 a_21 (nI 5) v5))
theorem sX9_makes  (r0 : Nat) (v1 : Int32) (v2 : Int32) (v3 : Int32) (v4 : Int32) (v5 : Int32) (v6 : Int32) (v7 : Int32) : Sm mX9_makes rV 0 0 0 [some (.ref r0), some (.int v1), some (.int v2), some (.int v3), some (.int v4), some (.int v5), some (.int v6), some (.int v7)] [] (fX9_makes r0 v1 v2 v3 v4 v5 v6 v7) := by
  unfold fX9_makes
  refine S_aload_n (pc := 0) dX9_makes_0 rfl ?_
  refine S_gP (pc := 1) fl_X9_22 rfl dX9_makes_1 (fun a_22 => ?_)
  refine S_iconst (pc := 4) (v := (nI 0)) dX9_makes_4 kI_0 ?_
  refine S_iload_n (pc := 5) dX9_makes_5 rfl ?_
  refine S_stI (pc := 6) dX9_makes_6 ?_
  refine S_aload_n (pc := 7) dX9_makes_7 rfl ?_
  refine S_gP (pc := 8) fl_X9_22 rfl dX9_makes_8 (fun a_23 => ?_)
  refine S_iconst (pc := 11) (v := (nI 1)) dX9_makes_11 kI_1 ?_
  refine S_iload_n (pc := 12) dX9_makes_12 rfl ?_
  refine S_stI (pc := 13) dX9_makes_13 ?_
  refine S_aload_n (pc := 14) dX9_makes_14 rfl ?_
  refine S_gP (pc := 15) fl_X9_22 rfl dX9_makes_15 (fun a_24 => ?_)
  refine S_iconst (pc := 18) (v := (nI 2)) dX9_makes_18 kI_2 ?_
  refine S_iload_n (pc := 19) dX9_makes_19 rfl ?_
  refine S_iconst (pc := 20) (v := (nI 3)) dX9_makes_20 kI_3 ?_
  refine S_icmpge (pc := 21) (tgt := 28) dX9_makes_21 (by decide) ?_ ?_
  · refine S_bipush (pc := 28) (v := (-2 : Int32)) dX9_makes_28 kB_m2 ?_
    exact (S_lv (lv0 := [some (.ref r0), some (.int v1), none, none, some (.int v4), some (.int v5), some (.int v6), some (.int v7)]) (And.intro rfl (And.intro rfl (And.intro rfl (And.intro rfl (And.intro rfl (And.intro rfl trivial)))))) (sX9_makes_30 r0 v1 v4 v5 v6 v7 a_24 (nI 2) (-2 : Int32)))
  · refine S_iload_n (pc := 24) dX9_makes_24 rfl ?_
    refine S_goto (pc := 25) (tgt := 30) dX9_makes_25 (by decide) ?_
    exact (S_lv (lv0 := [some (.ref r0), some (.int v1), none, none, some (.int v4), some (.int v5), some (.int v6), some (.int v7)]) (And.intro rfl (And.intro rfl (And.intro rfl (And.intro rfl (And.intro rfl (And.intro rfl trivial)))))) (sX9_makes_30 r0 v1 v4 v5 v6 v7 a_24 (nI 2) v3))
theorem ktX9_makes (r0 : Nat) (v1 : Int32) (v2 : Int32) (v3 : Int32) (v4 : Int32) (v5 : Int32) (v6 : Int32) (v7 : Int32) : Ct mX9_makes rV [.ref r0, .int v1, .int v2, .int v3, .int v4, .int v5, .int v6, .int v7] (fX9_makes r0 v1 v2 v3 v4 v5 v6 v7) := Ct.of (z := 0) pn_X9 rfl rfl rfl (sX9_makes r0 v1 v2 v3 v4 v5 v6 v7)
def mX9_noReference : MI := (yX9_noReference, cX9_noReference, 2, none, { frames := 0, cells := 0, slots := 0, locals := 0 }, [])
theorem mw_X9_noReference : MW mX9_noReference 0 := ⟨w1208, w11, ⟨by decide, by decide⟩, by decide +kernel⟩
theorem mv_X9_noReference : MV mX9_noReference 9 := ⟨_, rfl, w1207, wp40⟩
def bX9_noReference_2  (k2 : Nat → Int32 → AH → Option (Unit × AH)) (r0 : Nat) (v1 : Int32) : AH → Option (Unit × AH) := fun h =>
  if (nI 8) ≤ v1 then (
    (gP 9 r0 16 h).bind fun a_5 =>
    (stI a_5 (nI 0) (nI 0) h).bind fun h =>
    some ((), h))
  else
  (gP 9 r0 16 h).bind fun a_6 =>
  (stI a_6 v1 (-2 : Int32) h).bind fun h =>
  k2 r0 (v1 + (nI 1)) h
def lX9_noReference_2  : Nat → Nat → Int32 → AH → Option (Unit × AH)
  | 0 => fun _ _ _ => none
  | n + 1 => bX9_noReference_2 (lX9_noReference_2 n)
def fX9_noReference  (r0 : Nat) : AH → Option (Unit × AH) := fun h =>
  lX9_noReference_2 fuel r0 (nI 0) h
theorem sbX9_noReference_2  {k2 : Nat → Int32 → AH → Option (Unit × AH)} (h2 : ∀ (r0 : Nat) (v1 : Int32), Sm mX9_noReference rV 0 0 2 [some (.ref r0), some (.int v1)] [] (k2 r0 v1)) (r0 : Nat) (v1 : Int32) : Sm mX9_noReference rV 0 0 2 [some (.ref r0), some (.int v1)] [] (bX9_noReference_2 k2 r0 v1) := by
  unfold bX9_noReference_2
  refine S_iload_n (pc := 2) dX9_noReference_2 rfl ?_
  refine S_bipush (pc := 3) (v := (nI 8)) dX9_noReference_3 kB_8 ?_
  refine S_icmpge (pc := 5) (tgt := 22) dX9_noReference_5 (by decide) ?_ ?_
  · refine S_aload_n (pc := 22) dX9_noReference_22 rfl ?_
    refine S_gP (pc := 23) fl_X9_25 rfl dX9_noReference_23 (fun a_5 => ?_)
    refine S_iconst (pc := 26) (v := (nI 0)) dX9_noReference_26 kI_0 ?_
    refine S_iconst (pc := 27) (v := (nI 0)) dX9_noReference_27 kI_0 ?_
    refine S_stI (pc := 28) dX9_noReference_28 ?_
    exact S_vret (pc := 29) ⟨rfl, rfl⟩ rfl rfl dX9_noReference_29
  · refine S_aload_n (pc := 8) dX9_noReference_8 rfl ?_
    refine S_gP (pc := 9) fl_X9_25 rfl dX9_noReference_9 (fun a_6 => ?_)
    refine S_iload_n (pc := 12) dX9_noReference_12 rfl ?_
    refine S_bipush (pc := 13) (v := (-2 : Int32)) dX9_noReference_13 kB_m2 ?_
    refine S_stI (pc := 15) dX9_noReference_15 ?_
    refine Z_iinc (pc := 16) (v := (nI 1)) (lv' := [some (.ref r0), some (.int (v1 + (nI 1)))]) dX9_noReference_16 rfl kI_1 rfl rfl rfl ?_
    refine S_goto (pc := 19) (tgt := 2) dX9_noReference_19 (by decide) ?_
    exact (h2 r0 (v1 + (nI 1)))
theorem sX9_noReference_2  : ∀ (n : Nat) (r0 : Nat) (v1 : Int32), Sm mX9_noReference rV 0 0 2 [some (.ref r0), some (.int v1)] [] (lX9_noReference_2 n r0 v1)
  | 0, _, _ => S_none
  | n + 1, r0, v1 => sbX9_noReference_2 (sX9_noReference_2 n) r0 v1
theorem sX9_noReference  (r0 : Nat) : Sm mX9_noReference rV 0 0 0 [some (.ref r0), none] [] (fX9_noReference r0) := by
  unfold fX9_noReference
  refine S_iconst (pc := 0) (v := (nI 0)) dX9_noReference_0 kI_0 ?_
  refine Z_istore_n (pc := 1) (lv' := [some (.ref r0), some (.int (nI 0))]) dX9_noReference_1 rfl rfl rfl ?_
  exact (sX9_noReference_2 fuel r0 (nI 0))
theorem ktX9_noReference (r0 : Nat) : Ct mX9_noReference rV [.ref r0] (fX9_noReference r0) := Ct.of (z := 1) pn_X9 rfl rfl rfl (sX9_noReference r0)
def mX9_isVersion : MI := (yX9_isVersion, cX9_isVersion, 1, (some .boolean), { frames := 1, cells := 0, slots := 0, locals := 22 }, [])
theorem mw_X9_isVersion : MW mX9_isVersion 1 := ⟨w1215, w11, ⟨by decide, by decide⟩, by decide +kernel⟩
def fX9_isVersion  (v0 : Int32) : AH → Option (Int32 × AH) := fun h =>
  bd (fX9_within v0 (nI 0) (nI 1) h) fun x_2 h =>
  rz x_2 x_2 h
theorem sX9_isVersion  (v0 : Int32) : Sm mX9_isVersion rI 0 0 0 [some (.int v0)] [] (fX9_isVersion v0) := by
  unfold fX9_isVersion
  refine S_iload_n (pc := 0) dX9_isVersion_0 rfl ?_
  refine S_iconst (pc := 1) (v := (nI 0)) dX9_isVersion_1 kI_0 ?_
  refine S_iconst (pc := 2) (v := (nI 1)) dX9_isVersion_2 kI_1 ?_
  refine Y_Ti (pc := 3) (st := []) (kc' := 0) (ks' := 0) (ktX9_within v0 (nI 0) (nI 1)) mw_X9_within w1217 w1216 (RO.mk rfl rfl rfl rfl) rfl rfl rfl dX9_isVersion_3 ⟨rfl, rfl⟩ (fun x_2 => ?_)
  exact S_zret (pc := 6) ⟨rfl, rfl⟩ rfl rfl dX9_isVersion_6
theorem ktX9_isVersion (v0 : Int32) : Ct mX9_isVersion rI [.int v0] (fX9_isVersion v0) := Ct.of (z := 0) pn_X9 rfl rfl rfl (sX9_isVersion v0)
def mX9_at : MI := (yX9_at, cX9_at, 2, (some .int), { frames := 0, cells := 0, slots := 0, locals := 0 }, [])
theorem mw_X9_at : MW mX9_at 2 := ⟨w1181, w11, ⟨by decide, by decide⟩, by decide +kernel⟩
def fX9_at  (v0 : Int32) (v1 : Int32) : AH → Option (Int32 × AH) := fun h =>
  some ((((nI 481) * v0) + ((nI 8) * v1)), h)
theorem sX9_at  (v0 : Int32) (v1 : Int32) : Sm mX9_at rI 0 0 0 [some (.int v0), some (.int v1)] [] (fX9_at v0 v1) := by
  unfold fX9_at
  refine S_sipush (pc := 0) (v := (nI 481)) dX9_at_0 kS_481 ?_
  refine S_iload_n (pc := 3) dX9_at_3 rfl ?_
  refine S_imul (pc := 4) dX9_at_4 ?_
  refine S_bipush (pc := 5) (v := (nI 8)) dX9_at_5 kB_8 ?_
  refine S_iload_n (pc := 7) dX9_at_7 rfl ?_
  refine S_imul (pc := 8) dX9_at_8 ?_
  refine S_iadd (pc := 9) dX9_at_9 ?_
  exact S_iret (pc := 10) ⟨rfl, rfl⟩ rfl rfl dX9_at_10
theorem ktX9_at (v0 : Int32) (v1 : Int32) : Ct mX9_at rI [.int v0, .int v1] (fX9_at v0 v1) := Ct.of (z := 0) pn_X9 rfl rfl rfl (sX9_at v0 v1)
def mX9_of : MI := (yX9_of, cX9_of, 4, (some .int), { frames := 1, cells := 0, slots := 0, locals := 21 }, [])
theorem mw_X9_of : MW mX9_of 3 := ⟨w1222, w11, ⟨by decide, by decide⟩, by decide +kernel⟩
theorem mv_X9_of : MV mX9_of 9 := ⟨_, rfl, w1221, wp42⟩
def fX9_of  (r0 : Nat) (v1 : Int32) (v2 : Int32) (v3 : Int32) : AH → Option (Int32 × AH) := fun h =>
  (gP 9 r0 0 h).bind fun a_4 =>
  bd (fX9_at v1 v2 h) fun x_5 h =>
  (ldI a_4 (x_5 + v3) h).bind fun x_6 =>
  some (x_6, h)
theorem sX9_of  (r0 : Nat) (v1 : Int32) (v2 : Int32) (v3 : Int32) : Sm mX9_of rI 0 0 0 [some (.ref r0), some (.int v1), some (.int v2), some (.int v3)] [] (fX9_of r0 v1 v2 v3) := by
  unfold fX9_of
  refine S_aload_n (pc := 0) dX9_of_0 rfl ?_
  refine S_gP (pc := 1) fl_X9_7 rfl dX9_of_1 (fun a_4 => ?_)
  refine S_iload_n (pc := 4) dX9_of_4 rfl ?_
  refine S_iload_n (pc := 5) dX9_of_5 rfl ?_
  refine Y_Ti (pc := 6) (st := [.ref a_4]) (kc' := 0) (ks' := 0) (ktX9_at v1 v2) mw_X9_at w1180 w1179 (RO.mk rfl rfl rfl rfl) rfl rfl rfl dX9_of_6 ⟨rfl, rfl⟩ (fun x_5 => ?_)
  refine S_iload_n (pc := 9) dX9_of_9 rfl ?_
  refine S_iadd (pc := 10) dX9_of_10 ?_
  refine S_ldI (pc := 11) dX9_of_11 (fun x_6 => ?_)
  exact S_iret (pc := 12) ⟨rfl, rfl⟩ rfl rfl dX9_of_12
theorem ktX9_of (r0 : Nat) (v1 : Int32) (v2 : Int32) (v3 : Int32) : Ct mX9_of rI [.ref r0, .int v1, .int v2, .int v3] (fX9_of r0 v1 v2 v3) := Ct.of (z := 0) pn_X9 rfl rfl rfl (sX9_of r0 v1 v2 v3)
def mX9_isClass : MI := (yX9_isClass, cX9_isClass, 3, (some .boolean), { frames := 2, cells := 0, slots := 0, locals := 44 }, [])
theorem mw_X9_isClass : MW mX9_isClass 2 := ⟨w1212, w11, ⟨by decide, by decide⟩, by decide +kernel⟩
theorem mv_X9_isClass : MV mX9_isClass 9 := ⟨_, rfl, w1211, wp41⟩
def fX9_isClass  (r0 : Nat) (v1 : Int32) (v2 : Int32) : AH → Option (Int32 × AH) := fun h =>
  bd (fX9_isVersion v1 h) fun x_4 h =>
  if x_4 = 0 then (
    rz (nI 0) (nI 0) h)
  else
  bd (fX9_within v2 (nI 0) (nI 9) h) fun x_5 h =>
  if x_5 = 0 then (
    rz (nI 0) (nI 0) h)
  else
  cv 9 r0 (fX9_of r0 v1 v2 (nI 0)) h fun x_6 h =>
  if x_6 = (nI 1) then (
    rz (nI 1) (nI 1) h)
  else
  rz (nI 0) (nI 0) h
theorem sX9_isClass  (r0 : Nat) (v1 : Int32) (v2 : Int32) : Sm mX9_isClass rI 0 0 0 [some (.ref r0), some (.int v1), some (.int v2)] [] (fX9_isClass r0 v1 v2) := by
  unfold fX9_isClass
  refine S_iload_n (pc := 0) dX9_isClass_0 rfl ?_
  refine Y_Ti (pc := 1) (st := []) (kc' := 0) (ks' := 0) (ktX9_isVersion v1) mw_X9_isVersion w1214 w1213 (RO.mk rfl rfl rfl rfl) rfl rfl rfl dX9_isClass_1 ⟨rfl, rfl⟩ (fun x_4 => ?_)
  refine S_ifeq (pc := 4) (tgt := 32) dX9_isClass_4 (by decide) ?_ ?_
  · refine S_iconst (pc := 32) (v := (nI 0)) dX9_isClass_32 kI_0 ?_
    exact S_zret (pc := 33) ⟨rfl, rfl⟩ rfl rfl dX9_isClass_33
  · refine S_iload_n (pc := 7) dX9_isClass_7 rfl ?_
    refine S_iconst (pc := 8) (v := (nI 0)) dX9_isClass_8 kI_0 ?_
    refine S_bipush (pc := 9) (v := (nI 9)) dX9_isClass_9 kB_9 ?_
    refine Y_Ti (pc := 11) (st := []) (kc' := 0) (ks' := 0) (ktX9_within v2 (nI 0) (nI 9)) mw_X9_within w1217 w1216 (RO.mk rfl rfl rfl rfl) rfl rfl rfl dX9_isClass_11 ⟨rfl, rfl⟩ (fun x_5 => ?_)
    refine S_ifeq (pc := 14) (tgt := 32) dX9_isClass_14 (by decide) ?_ ?_
    · refine S_iconst (pc := 32) (v := (nI 0)) dX9_isClass_32 kI_0 ?_
      exact S_zret (pc := 33) ⟨rfl, rfl⟩ rfl rfl dX9_isClass_33
    · refine S_aload_n (pc := 17) dX9_isClass_17 rfl ?_
      refine S_iload_n (pc := 18) dX9_isClass_18 rfl ?_
      refine S_iload_n (pc := 19) dX9_isClass_19 rfl ?_
      refine S_iconst (pc := 20) (v := (nI 0)) dX9_isClass_20 kI_0 ?_
      refine Y_Vi (pc := 21) (st := []) (kc' := 0) (ks' := 0) (ktX9_of r0 v1 v2 (nI 0)) mw_X9_of mv_X9_of w1219 (RO.mk rfl rfl rfl rfl) rfl rfl rfl dX9_isClass_21 ⟨rfl, rfl⟩ (fun x_6 => ?_)
      refine S_iconst (pc := 24) (v := (nI 1)) dX9_isClass_24 kI_1 ?_
      refine S_icmpne (pc := 25) (tgt := 32) dX9_isClass_25 (by decide) ?_ ?_
      · refine S_iconst (pc := 32) (v := (nI 0)) dX9_isClass_32 kI_0 ?_
        exact S_zret (pc := 33) ⟨rfl, rfl⟩ rfl rfl dX9_isClass_33
      · refine S_iconst (pc := 28) (v := (nI 1)) dX9_isClass_28 kI_1 ?_
        refine S_goto (pc := 29) (tgt := 33) dX9_isClass_29 (by decide) ?_
        exact S_zret (pc := 33) ⟨rfl, rfl⟩ rfl rfl dX9_isClass_33
theorem ktX9_isClass (r0 : Nat) (v1 : Int32) (v2 : Int32) : Ct mX9_isClass rI [.ref r0, .int v1, .int v2] (fX9_isClass r0 v1 v2) := Ct.of (z := 0) pn_X9 rfl rfl rfl (sX9_isClass r0 v1 v2)
def mX9_isOpenClass : MI := (yX9_isOpenClass, cX9_isOpenClass, 3, (some .boolean), { frames := 2, cells := 0, slots := 0, locals := 44 }, [])
theorem mw_X9_isOpenClass : MW mX9_isOpenClass 2 := ⟨w1226, w11, ⟨by decide, by decide⟩, by decide +kernel⟩
theorem mv_X9_isOpenClass : MV mX9_isOpenClass 9 := ⟨_, rfl, w1225, wp43⟩
def fX9_isOpenClass  (r0 : Nat) (v1 : Int32) (v2 : Int32) : AH → Option (Int32 × AH) := fun h =>
  cv 9 r0 (fX9_of r0 v1 v2 (nI 5)) h fun x_5 h =>
  if x_5 = (nI 1) then (
    rz (nI 1) (nI 1) h)
  else
  cv 9 r0 (fX9_of r0 v1 v2 (nI 4)) h fun x_6 h =>
  (gP 9 r0 15 h).bind fun a_7 =>
  (ldI a_7 (nI 3) h).bind fun x_8 =>
  if x_6 = x_8 then (
    rz (nI 1) (nI 1) h)
  else
  rz (nI 0) (nI 0) h
theorem sX9_isOpenClass  (r0 : Nat) (v1 : Int32) (v2 : Int32) : Sm mX9_isOpenClass rI 0 0 0 [some (.ref r0), some (.int v1), some (.int v2)] [] (fX9_isOpenClass r0 v1 v2) := by
  unfold fX9_isOpenClass
  refine S_aload_n (pc := 0) dX9_isOpenClass_0 rfl ?_
  refine S_iload_n (pc := 1) dX9_isOpenClass_1 rfl ?_
  refine S_iload_n (pc := 2) dX9_isOpenClass_2 rfl ?_
  refine S_iconst (pc := 3) (v := (nI 5)) dX9_isOpenClass_3 kI_5 ?_
  refine Y_Vi (pc := 4) (st := []) (kc' := 0) (ks' := 0) (ktX9_of r0 v1 v2 (nI 5)) mw_X9_of mv_X9_of w1219 (RO.mk rfl rfl rfl rfl) rfl rfl rfl dX9_isOpenClass_4 ⟨rfl, rfl⟩ (fun x_5 => ?_)
  refine S_iconst (pc := 7) (v := (nI 1)) dX9_isOpenClass_7 kI_1 ?_
  refine S_icmpeq (pc := 8) (tgt := 27) dX9_isOpenClass_8 (by decide) ?_ ?_
  · refine S_iconst (pc := 27) (v := (nI 1)) dX9_isOpenClass_27 kI_1 ?_
    refine S_goto (pc := 28) (tgt := 32) dX9_isOpenClass_28 (by decide) ?_
    exact S_zret (pc := 32) ⟨rfl, rfl⟩ rfl rfl dX9_isOpenClass_32
  · refine S_aload_n (pc := 11) dX9_isOpenClass_11 rfl ?_
    refine S_iload_n (pc := 12) dX9_isOpenClass_12 rfl ?_
    refine S_iload_n (pc := 13) dX9_isOpenClass_13 rfl ?_
    refine S_iconst (pc := 14) (v := (nI 4)) dX9_isOpenClass_14 kI_4 ?_
    refine Y_Vi (pc := 15) (st := []) (kc' := 0) (ks' := 0) (ktX9_of r0 v1 v2 (nI 4)) mw_X9_of mv_X9_of w1219 (RO.mk rfl rfl rfl rfl) rfl rfl rfl dX9_isOpenClass_15 ⟨rfl, rfl⟩ (fun x_6 => ?_)
    refine S_aload_n (pc := 18) dX9_isOpenClass_18 rfl ?_
    refine S_gP (pc := 19) fl_X9_22 rfl dX9_isOpenClass_19 (fun a_7 => ?_)
    refine S_iconst (pc := 22) (v := (nI 3)) dX9_isOpenClass_22 kI_3 ?_
    refine S_ldI (pc := 23) dX9_isOpenClass_23 (fun x_8 => ?_)
    refine S_icmpne (pc := 24) (tgt := 31) dX9_isOpenClass_24 (by decide) ?_ ?_
    · refine S_iconst (pc := 31) (v := (nI 0)) dX9_isOpenClass_31 kI_0 ?_
      exact S_zret (pc := 32) ⟨rfl, rfl⟩ rfl rfl dX9_isOpenClass_32
    · refine S_iconst (pc := 27) (v := (nI 1)) dX9_isOpenClass_27 kI_1 ?_
      refine S_goto (pc := 28) (tgt := 32) dX9_isOpenClass_28 (by decide) ?_
      exact S_zret (pc := 32) ⟨rfl, rfl⟩ rfl rfl dX9_isOpenClass_32
theorem ktX9_isOpenClass (r0 : Nat) (v1 : Int32) (v2 : Int32) : Ct mX9_isOpenClass rI [.ref r0, .int v1, .int v2] (fX9_isOpenClass r0 v1 v2) := Ct.of (z := 0) pn_X9 rfl rfl rfl (sX9_isOpenClass r0 v1 v2)
def mX9_memberMany : MI := (yX9_memberMany, cX9_memberMany, 2, (some .int), { frames := 0, cells := 0, slots := 0, locals := 0 }, [])
theorem mw_X9_memberMany : MW mX9_memberMany 1 := ⟨w1189, w11, ⟨by decide, by decide⟩, by decide +kernel⟩
theorem mv_X9_memberMany : MV mX9_memberMany 9 := ⟨_, rfl, w1188, wp36⟩
def fX9_memberMany  (r0 : Nat) (v1 : Int32) : AH → Option (Int32 × AH) := fun h =>
  (gP 9 r0 0 h).bind fun a_3 =>
  (ldI a_3 (((nI 481) * v1) + (nI 80)) h).bind fun x_4 =>
  some (x_4, h)
theorem sX9_memberMany  (r0 : Nat) (v1 : Int32) : Sm mX9_memberMany rI 0 0 0 [some (.ref r0), some (.int v1)] [] (fX9_memberMany r0 v1) := by
  unfold fX9_memberMany
  refine S_aload_n (pc := 0) dX9_memberMany_0 rfl ?_
  refine S_gP (pc := 1) fl_X9_7 rfl dX9_memberMany_1 (fun a_3 => ?_)
  refine S_sipush (pc := 4) (v := (nI 481)) dX9_memberMany_4 kS_481 ?_
  refine S_iload_n (pc := 7) dX9_memberMany_7 rfl ?_
  refine S_imul (pc := 8) dX9_memberMany_8 ?_
  refine S_bipush (pc := 9) (v := (nI 80)) dX9_memberMany_9 kB_80 ?_
  refine S_iadd (pc := 11) dX9_memberMany_11 ?_
  refine S_ldI (pc := 12) dX9_memberMany_12 (fun x_4 => ?_)
  exact S_iret (pc := 13) ⟨rfl, rfl⟩ rfl rfl dX9_memberMany_13
theorem ktX9_memberMany (r0 : Nat) (v1 : Int32) : Ct mX9_memberMany rI [.ref r0, .int v1] (fX9_memberMany r0 v1) := Ct.of (z := 0) pn_X9 rfl rfl rfl (sX9_memberMany r0 v1)
def mX9_member : MI := (yX9_member, cX9_member, 2, (some .int), { frames := 0, cells := 0, slots := 0, locals := 0 }, [])
theorem mw_X9_member : MW mX9_member 2 := ⟨w1192, w11, ⟨by decide, by decide⟩, by decide +kernel⟩
def fX9_member  (v0 : Int32) (v1 : Int32) : AH → Option (Int32 × AH) := fun h =>
  some (((((nI 481) * v0) + (nI 81)) + ((nI 10) * v1)), h)
theorem sX9_member  (v0 : Int32) (v1 : Int32) : Sm mX9_member rI 0 0 0 [some (.int v0), some (.int v1)] [] (fX9_member v0 v1) := by
  unfold fX9_member
  refine S_sipush (pc := 0) (v := (nI 481)) dX9_member_0 kS_481 ?_
  refine S_iload_n (pc := 3) dX9_member_3 rfl ?_
  refine S_imul (pc := 4) dX9_member_4 ?_
  refine S_bipush (pc := 5) (v := (nI 81)) dX9_member_5 kB_81 ?_
  refine S_iadd (pc := 7) dX9_member_7 ?_
  refine S_bipush (pc := 8) (v := (nI 10)) dX9_member_8 kB_10 ?_
  refine S_iload_n (pc := 10) dX9_member_10 rfl ?_
  refine S_imul (pc := 11) dX9_member_11 ?_
  refine S_iadd (pc := 12) dX9_member_12 ?_
  exact S_iret (pc := 13) ⟨rfl, rfl⟩ rfl rfl dX9_member_13
theorem ktX9_member (v0 : Int32) (v1 : Int32) : Ct mX9_member rI [.int v0, .int v1] (fX9_member v0 v1) := Ct.of (z := 0) pn_X9 rfl rfl rfl (sX9_member v0 v1)
def mX9_its : MI := (yX9_its, cX9_its, 4, (some .int), { frames := 1, cells := 0, slots := 0, locals := 21 }, [])
theorem mw_X9_its : MW mX9_its 3 := ⟨w1246, w11, ⟨by decide, by decide⟩, by decide +kernel⟩
theorem mv_X9_its : MV mX9_its 9 := ⟨_, rfl, w1245, wp48⟩
def fX9_its  (r0 : Nat) (v1 : Int32) (v2 : Int32) (v3 : Int32) : AH → Option (Int32 × AH) := fun h =>
  (gP 9 r0 0 h).bind fun a_4 =>
  bd (fX9_member v1 v2 h) fun x_5 h =>
  (ldI a_4 (x_5 + v3) h).bind fun x_6 =>
  some (x_6, h)
theorem sX9_its  (r0 : Nat) (v1 : Int32) (v2 : Int32) (v3 : Int32) : Sm mX9_its rI 0 0 0 [some (.ref r0), some (.int v1), some (.int v2), some (.int v3)] [] (fX9_its r0 v1 v2 v3) := by
  unfold fX9_its
  refine S_aload_n (pc := 0) dX9_its_0 rfl ?_
  refine S_gP (pc := 1) fl_X9_7 rfl dX9_its_1 (fun a_4 => ?_)
  refine S_iload_n (pc := 4) dX9_its_4 rfl ?_
  refine S_iload_n (pc := 5) dX9_its_5 rfl ?_
  refine Y_Ti (pc := 6) (st := [.ref a_4]) (kc' := 0) (ks' := 0) (ktX9_member v1 v2) mw_X9_member w1191 w1190 (RO.mk rfl rfl rfl rfl) rfl rfl rfl dX9_its_6 ⟨rfl, rfl⟩ (fun x_5 => ?_)
  refine S_iload_n (pc := 9) dX9_its_9 rfl ?_
  refine S_iadd (pc := 10) dX9_its_10 ?_
  refine S_ldI (pc := 11) dX9_its_11 (fun x_6 => ?_)
  exact S_iret (pc := 12) ⟨rfl, rfl⟩ rfl rfl dX9_its_12
theorem ktX9_its (r0 : Nat) (v1 : Int32) (v2 : Int32) (v3 : Int32) : Ct mX9_its rI [.ref r0, .int v1, .int v2, .int v3] (fX9_its r0 v1 v2 v3) := Ct.of (z := 0) pn_X9 rfl rfl rfl (sX9_its r0 v1 v2 v3)
def mX9_hasParameters : MI := (yX9_hasParameters, cX9_hasParameters, 6, (some .boolean), { frames := 2, cells := 0, slots := 0, locals := 44 }, [])
theorem mw_X9_hasParameters : MW mX9_hasParameters 5 := ⟨w1250, w11, ⟨by decide, by decide⟩, by decide +kernel⟩
theorem mv_X9_hasParameters : MV mX9_hasParameters 9 := ⟨_, rfl, w1249, wp49⟩
def fX9_hasParameters_30  (r0 : Nat) (v1 : Int32) (v2 : Int32) (v3 : Int32) (v5 : Int32) : AH → Option (Int32 × AH) := fun h =>
  if v3 < (nI 2) then (
    rz (nI 1) (nI 1) h)
  else
  cv 9 r0 (fX9_its r0 v1 v2 (nI 8)) h fun x_7 h =>
  if x_7 = v5 then (
    rz (nI 1) (nI 1) h)
  else
  rz (nI 0) (nI 0) h
def fX9_hasParameters  (r0 : Nat) (v1 : Int32) (v2 : Int32) (v3 : Int32) (v4 : Int32) (v5 : Int32) : AH → Option (Int32 × AH) := fun h =>
  cv 9 r0 (fX9_its r0 v1 v2 (nI 6)) h fun x_8 h =>
  if x_8 = v3 then (
    if v3 < (nI 1) then (
      fX9_hasParameters_30 r0 v1 v2 v3 v5 h)
    else
    cv 9 r0 (fX9_its r0 v1 v2 (nI 7)) h fun x_9 h =>
    if x_9 = v4 then (
      fX9_hasParameters_30 r0 v1 v2 v3 v5 h)
    else
    rz (nI 0) (nI 0) h)
  else
  rz (nI 0) (nI 0) h
theorem sX9_hasParameters_30  (r0 : Nat) (v1 : Int32) (v2 : Int32) (v3 : Int32) (v5 : Int32) : Sm mX9_hasParameters rI 0 0 30 [some (.ref r0), some (.int v1), some (.int v2), some (.int v3), none, some (.int v5)] [] (fX9_hasParameters_30 r0 v1 v2 v3 v5) := by
  unfold fX9_hasParameters_30
  refine S_iload_n (pc := 30) dX9_hasParameters_30 rfl ?_
  refine S_iconst (pc := 31) (v := (nI 2)) dX9_hasParameters_31 kI_2 ?_
  refine S_icmplt (pc := 32) (tgt := 48) dX9_hasParameters_32 (by decide) ?_ ?_
  · refine S_iconst (pc := 48) (v := (nI 1)) dX9_hasParameters_48 kI_1 ?_
    refine S_goto (pc := 49) (tgt := 53) dX9_hasParameters_49 (by decide) ?_
    exact S_zret (pc := 53) ⟨rfl, rfl⟩ rfl rfl dX9_hasParameters_53
  · refine S_aload_n (pc := 35) dX9_hasParameters_35 rfl ?_
    refine S_iload_n (pc := 36) dX9_hasParameters_36 rfl ?_
    refine S_iload_n (pc := 37) dX9_hasParameters_37 rfl ?_
    refine S_bipush (pc := 38) (v := (nI 8)) dX9_hasParameters_38 kB_8 ?_
    refine Y_Vi (pc := 40) (st := []) (kc' := 0) (ks' := 0) (ktX9_its r0 v1 v2 (nI 8)) mw_X9_its mv_X9_its w1243 (RO.mk rfl rfl rfl rfl) rfl rfl rfl dX9_hasParameters_40 ⟨rfl, rfl⟩ (fun x_7 => ?_)
    refine S_iload (pc := 43) dX9_hasParameters_43 rfl ?_
    refine S_icmpne (pc := 45) (tgt := 52) dX9_hasParameters_45 (by decide) ?_ ?_
    · refine S_iconst (pc := 52) (v := (nI 0)) dX9_hasParameters_52 kI_0 ?_
      exact S_zret (pc := 53) ⟨rfl, rfl⟩ rfl rfl dX9_hasParameters_53
    · refine S_iconst (pc := 48) (v := (nI 1)) dX9_hasParameters_48 kI_1 ?_
      refine S_goto (pc := 49) (tgt := 53) dX9_hasParameters_49 (by decide) ?_
      exact S_zret (pc := 53) ⟨rfl, rfl⟩ rfl rfl dX9_hasParameters_53
theorem sX9_hasParameters  (r0 : Nat) (v1 : Int32) (v2 : Int32) (v3 : Int32) (v4 : Int32) (v5 : Int32) : Sm mX9_hasParameters rI 0 0 0 [some (.ref r0), some (.int v1), some (.int v2), some (.int v3), some (.int v4), some (.int v5)] [] (fX9_hasParameters r0 v1 v2 v3 v4 v5) := by
  unfold fX9_hasParameters
  refine S_aload_n (pc := 0) dX9_hasParameters_0 rfl ?_
  refine S_iload_n (pc := 1) dX9_hasParameters_1 rfl ?_
  refine S_iload_n (pc := 2) dX9_hasParameters_2 rfl ?_
  refine S_bipush (pc := 3) (v := (nI 6)) dX9_hasParameters_3 kB_6 ?_
  refine Y_Vi (pc := 5) (st := []) (kc' := 0) (ks' := 0) (ktX9_its r0 v1 v2 (nI 6)) mw_X9_its mv_X9_its w1243 (RO.mk rfl rfl rfl rfl) rfl rfl rfl dX9_hasParameters_5 ⟨rfl, rfl⟩ (fun x_8 => ?_)
  refine S_iload_n (pc := 8) dX9_hasParameters_8 rfl ?_
  refine S_icmpne (pc := 9) (tgt := 52) dX9_hasParameters_9 (by decide) ?_ ?_
  · refine S_iconst (pc := 52) (v := (nI 0)) dX9_hasParameters_52 kI_0 ?_
    exact S_zret (pc := 53) ⟨rfl, rfl⟩ rfl rfl dX9_hasParameters_53
  · refine S_iload_n (pc := 12) dX9_hasParameters_12 rfl ?_
    refine S_iconst (pc := 13) (v := (nI 1)) dX9_hasParameters_13 kI_1 ?_
    refine S_icmplt (pc := 14) (tgt := 30) dX9_hasParameters_14 (by decide) ?_ ?_
    · exact (S_lv (lv0 := [some (.ref r0), some (.int v1), some (.int v2), some (.int v3), none, some (.int v5)]) (And.intro rfl (And.intro rfl (And.intro rfl (And.intro rfl (And.intro rfl trivial))))) (sX9_hasParameters_30 r0 v1 v2 v3 v5))
    · refine S_aload_n (pc := 17) dX9_hasParameters_17 rfl ?_
      refine S_iload_n (pc := 18) dX9_hasParameters_18 rfl ?_
      refine S_iload_n (pc := 19) dX9_hasParameters_19 rfl ?_
      refine S_bipush (pc := 20) (v := (nI 7)) dX9_hasParameters_20 kB_7 ?_
      refine Y_Vi (pc := 22) (st := []) (kc' := 0) (ks' := 0) (ktX9_its r0 v1 v2 (nI 7)) mw_X9_its mv_X9_its w1243 (RO.mk rfl rfl rfl rfl) rfl rfl rfl dX9_hasParameters_22 ⟨rfl, rfl⟩ (fun x_9 => ?_)
      refine S_iload (pc := 25) dX9_hasParameters_25 rfl ?_
      refine S_icmpne (pc := 27) (tgt := 52) dX9_hasParameters_27 (by decide) ?_ ?_
      · refine S_iconst (pc := 52) (v := (nI 0)) dX9_hasParameters_52 kI_0 ?_
        exact S_zret (pc := 53) ⟨rfl, rfl⟩ rfl rfl dX9_hasParameters_53
      · exact (S_lv (lv0 := [some (.ref r0), some (.int v1), some (.int v2), some (.int v3), none, some (.int v5)]) (And.intro rfl (And.intro rfl (And.intro rfl (And.intro rfl (And.intro rfl trivial))))) (sX9_hasParameters_30 r0 v1 v2 v3 v5))
theorem ktX9_hasParameters (r0 : Nat) (v1 : Int32) (v2 : Int32) (v3 : Int32) (v4 : Int32) (v5 : Int32) : Ct mX9_hasParameters rI [.ref r0, .int v1, .int v2, .int v3, .int v4, .int v5] (fX9_hasParameters r0 v1 v2 v3 v4 v5) := Ct.of (z := 0) pn_X9 rfl rfl rfl (sX9_hasParameters r0 v1 v2 v3 v4 v5)
def mX9_found : MI := (yX9_found, cX9_found, 10, (some .int), { frames := 3, cells := 0, slots := 0, locals := 69 }, [])
theorem mw_X9_found : MW mX9_found 7 := ⟨w1242, w11, ⟨by decide, by decide⟩, by decide +kernel⟩
theorem mv_X9_found : MV mX9_found 9 := ⟨_, rfl, w1241, wp47⟩
def fX9_found_85 (k3 : Nat → Int32 → Int32 → Int32 → Int32 → Int32 → Int32 → Int32 → Int32 → AH → Option (Int32 × AH)) (r0 : Nat) (v1 : Int32) (v2 : Int32) (v3 : Int32) (v4 : Int32) (v5 : Int32) (v6 : Int32) (v7 : Int32) (v8 : Int32) : AH → Option (Int32 × AH) := fun h =>
  k3 r0 v1 v2 v3 v4 v5 v6 v7 (v8 + (nI 1)) h
def fX9_found_55 (k3 : Nat → Int32 → Int32 → Int32 → Int32 → Int32 → Int32 → Int32 → Int32 → AH → Option (Int32 × AH)) (r0 : Nat) (v1 : Int32) (v2 : Int32) (v3 : Int32) (v4 : Int32) (v5 : Int32) (v6 : Int32) (v7 : Int32) (v8 : Int32) (s0 : Int32) : AH → Option (Int32 × AH) := fun h =>
  if s0 = 0 then (
    fX9_found_85 k3 r0 v1 v2 v3 v4 v5 v6 v7 v8 h)
  else
  if v3 = 0 then (
    some (v8, h))
  else
  cv 9 r0 (fX9_hasParameters r0 v1 v8 v5 v6 v7) h fun x_11 h =>
  if x_11 = 0 then (
    fX9_found_85 k3 r0 v1 v2 v3 v4 v5 v6 v7 v8 h)
  else
  some (v8, h)
def fX9_found_54 (k3 : Nat → Int32 → Int32 → Int32 → Int32 → Int32 → Int32 → Int32 → Int32 → AH → Option (Int32 × AH)) (r0 : Nat) (v1 : Int32) (v2 : Int32) (v3 : Int32) (v4 : Int32) (v5 : Int32) (v6 : Int32) (v7 : Int32) (v8 : Int32) : AH → Option (Int32 × AH) := fun h =>
  fX9_found_55 k3 r0 v1 v2 v3 v4 v5 v6 v7 v8 (nI 0) h
def bX9_found_3  (k3 : Nat → Int32 → Int32 → Int32 → Int32 → Int32 → Int32 → Int32 → Int32 → AH → Option (Int32 × AH)) (r0 : Nat) (v1 : Int32) (v2 : Int32) (v3 : Int32) (v4 : Int32) (v5 : Int32) (v6 : Int32) (v7 : Int32) (v8 : Int32) : AH → Option (Int32 × AH) := fun h =>
  cv 9 r0 (fX9_memberMany r0 v1) h fun x_12 h =>
  if x_12 ≤ v8 then (
    some ((-2 : Int32), h))
  else
  cv 9 r0 (fX9_its r0 v1 v8 (nI 1)) h fun x_13 h =>
  if x_13 = v2 then (
    cv 9 r0 (fX9_its r0 v1 v8 (nI 0)) h fun x_14 h =>
    if x_14 = v3 then (
      cv 9 r0 (fX9_its r0 v1 v8 (nI 2)) h fun x_15 h =>
      if x_15 = v4 then (
        fX9_found_55 k3 r0 v1 v2 v3 v4 v5 v6 v7 v8 (nI 1) h)
      else
      fX9_found_54 k3 r0 v1 v2 v3 v4 v5 v6 v7 v8 h)
    else
    fX9_found_54 k3 r0 v1 v2 v3 v4 v5 v6 v7 v8 h)
  else
  fX9_found_54 k3 r0 v1 v2 v3 v4 v5 v6 v7 v8 h
def lX9_found_3  : Nat → Nat → Int32 → Int32 → Int32 → Int32 → Int32 → Int32 → Int32 → Int32 → AH → Option (Int32 × AH)
  | 0 => fun _ _ _ _ _ _ _ _ _ _ => none
  | n + 1 => bX9_found_3 (lX9_found_3 n)
def fX9_found  (r0 : Nat) (v1 : Int32) (v2 : Int32) (v3 : Int32) (v4 : Int32) (v5 : Int32) (v6 : Int32) (v7 : Int32) : AH → Option (Int32 × AH) := fun h =>
  lX9_found_3 fuel r0 v1 v2 v3 v4 v5 v6 v7 (nI 0) h
theorem sX9_found_85 {k3 : Nat → Int32 → Int32 → Int32 → Int32 → Int32 → Int32 → Int32 → Int32 → AH → Option (Int32 × AH)} (h3 : ∀ (r0 : Nat) (v1 : Int32) (v2 : Int32) (v3 : Int32) (v4 : Int32) (v5 : Int32) (v6 : Int32) (v7 : Int32) (v8 : Int32), Sm mX9_found rI 0 0 3 [some (.ref r0), some (.int v1), some (.int v2), some (.int v3), some (.int v4), some (.int v5), some (.int v6), some (.int v7), some (.int v8), none] [] (k3 r0 v1 v2 v3 v4 v5 v6 v7 v8)) (r0 : Nat) (v1 : Int32) (v2 : Int32) (v3 : Int32) (v4 : Int32) (v5 : Int32) (v6 : Int32) (v7 : Int32) (v8 : Int32) : Sm mX9_found rI 0 0 85 [some (.ref r0), some (.int v1), some (.int v2), some (.int v3), some (.int v4), some (.int v5), some (.int v6), some (.int v7), some (.int v8), none] [] (fX9_found_85 k3 r0 v1 v2 v3 v4 v5 v6 v7 v8) := by
  unfold fX9_found_85
  refine Z_iinc (pc := 85) (v := (nI 1)) (lv' := [some (.ref r0), some (.int v1), some (.int v2), some (.int v3), some (.int v4), some (.int v5), some (.int v6), some (.int v7), some (.int (v8 + (nI 1))), none]) dX9_found_85 rfl kI_1 rfl rfl rfl ?_
  refine S_goto (pc := 88) (tgt := 3) dX9_found_88 (by decide) ?_
  exact (h3 r0 v1 v2 v3 v4 v5 v6 v7 (v8 + (nI 1)))
theorem sX9_found_55 {k3 : Nat → Int32 → Int32 → Int32 → Int32 → Int32 → Int32 → Int32 → Int32 → AH → Option (Int32 × AH)} (h3 : ∀ (r0 : Nat) (v1 : Int32) (v2 : Int32) (v3 : Int32) (v4 : Int32) (v5 : Int32) (v6 : Int32) (v7 : Int32) (v8 : Int32), Sm mX9_found rI 0 0 3 [some (.ref r0), some (.int v1), some (.int v2), some (.int v3), some (.int v4), some (.int v5), some (.int v6), some (.int v7), some (.int v8), none] [] (k3 r0 v1 v2 v3 v4 v5 v6 v7 v8)) (r0 : Nat) (v1 : Int32) (v2 : Int32) (v3 : Int32) (v4 : Int32) (v5 : Int32) (v6 : Int32) (v7 : Int32) (v8 : Int32) (s0 : Int32) : Sm mX9_found rI 0 0 55 [some (.ref r0), some (.int v1), some (.int v2), some (.int v3), some (.int v4), some (.int v5), some (.int v6), some (.int v7), some (.int v8), none] [.int s0] (fX9_found_55 k3 r0 v1 v2 v3 v4 v5 v6 v7 v8 s0) := by
  unfold fX9_found_55
  refine Z_istore (pc := 55) (lv' := [some (.ref r0), some (.int v1), some (.int v2), some (.int v3), some (.int v4), some (.int v5), some (.int v6), some (.int v7), some (.int v8), some (.int s0)]) dX9_found_55 rfl rfl rfl ?_
  refine S_iload (pc := 57) dX9_found_57 rfl ?_
  refine S_ifeq (pc := 59) (tgt := 85) dX9_found_59 (by decide) ?_ ?_
  · exact (S_lv (lv0 := [some (.ref r0), some (.int v1), some (.int v2), some (.int v3), some (.int v4), some (.int v5), some (.int v6), some (.int v7), some (.int v8), none]) (And.intro rfl (And.intro rfl (And.intro rfl (And.intro rfl (And.intro rfl (And.intro rfl (And.intro rfl (And.intro rfl (And.intro rfl trivial))))))))) (sX9_found_85 h3 r0 v1 v2 v3 v4 v5 v6 v7 v8))
  · refine S_iload_n (pc := 62) dX9_found_62 rfl ?_
    refine S_ifeq (pc := 63) (tgt := 82) dX9_found_63 (by decide) ?_ ?_
    · refine S_iload (pc := 82) dX9_found_82 rfl ?_
      exact S_iret (pc := 84) ⟨rfl, rfl⟩ rfl rfl dX9_found_84
    · refine S_aload_n (pc := 66) dX9_found_66 rfl ?_
      refine S_iload_n (pc := 67) dX9_found_67 rfl ?_
      refine S_iload (pc := 68) dX9_found_68 rfl ?_
      refine S_iload (pc := 70) dX9_found_70 rfl ?_
      refine S_iload (pc := 72) dX9_found_72 rfl ?_
      refine S_iload (pc := 74) dX9_found_74 rfl ?_
      refine Y_Vi (pc := 76) (st := []) (kc' := 0) (ks' := 0) (ktX9_hasParameters r0 v1 v8 v5 v6 v7) mw_X9_hasParameters mv_X9_hasParameters w1247 (RO.mk rfl rfl rfl rfl) rfl rfl rfl dX9_found_76 ⟨rfl, rfl⟩ (fun x_11 => ?_)
      refine S_ifeq (pc := 79) (tgt := 85) dX9_found_79 (by decide) ?_ ?_
      · exact (S_lv (lv0 := [some (.ref r0), some (.int v1), some (.int v2), some (.int v3), some (.int v4), some (.int v5), some (.int v6), some (.int v7), some (.int v8), none]) (And.intro rfl (And.intro rfl (And.intro rfl (And.intro rfl (And.intro rfl (And.intro rfl (And.intro rfl (And.intro rfl (And.intro rfl trivial))))))))) (sX9_found_85 h3 r0 v1 v2 v3 v4 v5 v6 v7 v8))
      · refine S_iload (pc := 82) dX9_found_82 rfl ?_
        exact S_iret (pc := 84) ⟨rfl, rfl⟩ rfl rfl dX9_found_84
theorem sX9_found_54 {k3 : Nat → Int32 → Int32 → Int32 → Int32 → Int32 → Int32 → Int32 → Int32 → AH → Option (Int32 × AH)} (h3 : ∀ (r0 : Nat) (v1 : Int32) (v2 : Int32) (v3 : Int32) (v4 : Int32) (v5 : Int32) (v6 : Int32) (v7 : Int32) (v8 : Int32), Sm mX9_found rI 0 0 3 [some (.ref r0), some (.int v1), some (.int v2), some (.int v3), some (.int v4), some (.int v5), some (.int v6), some (.int v7), some (.int v8), none] [] (k3 r0 v1 v2 v3 v4 v5 v6 v7 v8)) (r0 : Nat) (v1 : Int32) (v2 : Int32) (v3 : Int32) (v4 : Int32) (v5 : Int32) (v6 : Int32) (v7 : Int32) (v8 : Int32) : Sm mX9_found rI 0 0 54 [some (.ref r0), some (.int v1), some (.int v2), some (.int v3), some (.int v4), some (.int v5), some (.int v6), some (.int v7), some (.int v8), none] [] (fX9_found_54 k3 r0 v1 v2 v3 v4 v5 v6 v7 v8) := by
  unfold fX9_found_54
  refine S_iconst (pc := 54) (v := (nI 0)) dX9_found_54 kI_0 ?_
  exact (sX9_found_55 h3 r0 v1 v2 v3 v4 v5 v6 v7 v8 (nI 0))
theorem sbX9_found_3  {k3 : Nat → Int32 → Int32 → Int32 → Int32 → Int32 → Int32 → Int32 → Int32 → AH → Option (Int32 × AH)} (h3 : ∀ (r0 : Nat) (v1 : Int32) (v2 : Int32) (v3 : Int32) (v4 : Int32) (v5 : Int32) (v6 : Int32) (v7 : Int32) (v8 : Int32), Sm mX9_found rI 0 0 3 [some (.ref r0), some (.int v1), some (.int v2), some (.int v3), some (.int v4), some (.int v5), some (.int v6), some (.int v7), some (.int v8), none] [] (k3 r0 v1 v2 v3 v4 v5 v6 v7 v8)) (r0 : Nat) (v1 : Int32) (v2 : Int32) (v3 : Int32) (v4 : Int32) (v5 : Int32) (v6 : Int32) (v7 : Int32) (v8 : Int32) : Sm mX9_found rI 0 0 3 [some (.ref r0), some (.int v1), some (.int v2), some (.int v3), some (.int v4), some (.int v5), some (.int v6), some (.int v7), some (.int v8), none] [] (bX9_found_3 k3 r0 v1 v2 v3 v4 v5 v6 v7 v8) := by
  unfold bX9_found_3
  refine S_iload (pc := 3) dX9_found_3 rfl ?_
  refine S_aload_n (pc := 5) dX9_found_5 rfl ?_
  refine S_iload_n (pc := 6) dX9_found_6 rfl ?_
  refine Y_Vi (pc := 7) (st := [.int v8]) (kc' := 0) (ks' := 0) (ktX9_memberMany r0 v1) mw_X9_memberMany mv_X9_memberMany w1186 (RO.mk rfl rfl rfl rfl) rfl rfl rfl dX9_found_7 ⟨rfl, rfl⟩ (fun x_12 => ?_)
  refine S_icmpge (pc := 10) (tgt := 91) dX9_found_10 (by decide) ?_ ?_
  · refine S_bipush (pc := 91) (v := (-2 : Int32)) dX9_found_91 kB_m2 ?_
    exact S_iret (pc := 93) ⟨rfl, rfl⟩ rfl rfl dX9_found_93
  · refine S_aload_n (pc := 13) dX9_found_13 rfl ?_
    refine S_iload_n (pc := 14) dX9_found_14 rfl ?_
    refine S_iload (pc := 15) dX9_found_15 rfl ?_
    refine S_iconst (pc := 17) (v := (nI 1)) dX9_found_17 kI_1 ?_
    refine Y_Vi (pc := 18) (st := []) (kc' := 0) (ks' := 0) (ktX9_its r0 v1 v8 (nI 1)) mw_X9_its mv_X9_its w1243 (RO.mk rfl rfl rfl rfl) rfl rfl rfl dX9_found_18 ⟨rfl, rfl⟩ (fun x_13 => ?_)
    refine S_iload_n (pc := 21) dX9_found_21 rfl ?_
    refine S_icmpne (pc := 22) (tgt := 54) dX9_found_22 (by decide) ?_ ?_
    · exact (sX9_found_54 h3 r0 v1 v2 v3 v4 v5 v6 v7 v8)
    · refine S_aload_n (pc := 25) dX9_found_25 rfl ?_
      refine S_iload_n (pc := 26) dX9_found_26 rfl ?_
      refine S_iload (pc := 27) dX9_found_27 rfl ?_
      refine S_iconst (pc := 29) (v := (nI 0)) dX9_found_29 kI_0 ?_
      refine Y_Vi (pc := 30) (st := []) (kc' := 0) (ks' := 0) (ktX9_its r0 v1 v8 (nI 0)) mw_X9_its mv_X9_its w1243 (RO.mk rfl rfl rfl rfl) rfl rfl rfl dX9_found_30 ⟨rfl, rfl⟩ (fun x_14 => ?_)
      refine S_iload_n (pc := 33) dX9_found_33 rfl ?_
      refine S_icmpne (pc := 34) (tgt := 54) dX9_found_34 (by decide) ?_ ?_
      · exact (sX9_found_54 h3 r0 v1 v2 v3 v4 v5 v6 v7 v8)
      · refine S_aload_n (pc := 37) dX9_found_37 rfl ?_
        refine S_iload_n (pc := 38) dX9_found_38 rfl ?_
        refine S_iload (pc := 39) dX9_found_39 rfl ?_
        refine S_iconst (pc := 41) (v := (nI 2)) dX9_found_41 kI_2 ?_
        refine Y_Vi (pc := 42) (st := []) (kc' := 0) (ks' := 0) (ktX9_its r0 v1 v8 (nI 2)) mw_X9_its mv_X9_its w1243 (RO.mk rfl rfl rfl rfl) rfl rfl rfl dX9_found_42 ⟨rfl, rfl⟩ (fun x_15 => ?_)
        refine S_iload (pc := 45) dX9_found_45 rfl ?_
        refine S_icmpne (pc := 47) (tgt := 54) dX9_found_47 (by decide) ?_ ?_
        · exact (sX9_found_54 h3 r0 v1 v2 v3 v4 v5 v6 v7 v8)
        · refine S_iconst (pc := 50) (v := (nI 1)) dX9_found_50 kI_1 ?_
          refine S_goto (pc := 51) (tgt := 55) dX9_found_51 (by decide) ?_
          exact (sX9_found_55 h3 r0 v1 v2 v3 v4 v5 v6 v7 v8 (nI 1))
theorem sX9_found_3  : ∀ (n : Nat) (r0 : Nat) (v1 : Int32) (v2 : Int32) (v3 : Int32) (v4 : Int32) (v5 : Int32) (v6 : Int32) (v7 : Int32) (v8 : Int32), Sm mX9_found rI 0 0 3 [some (.ref r0), some (.int v1), some (.int v2), some (.int v3), some (.int v4), some (.int v5), some (.int v6), some (.int v7), some (.int v8), none] [] (lX9_found_3 n r0 v1 v2 v3 v4 v5 v6 v7 v8)
  | 0, _, _, _, _, _, _, _, _, _ => S_none
  | n + 1, r0, v1, v2, v3, v4, v5, v6, v7, v8 => sbX9_found_3 (sX9_found_3 n) r0 v1 v2 v3 v4 v5 v6 v7 v8
theorem sX9_found  (r0 : Nat) (v1 : Int32) (v2 : Int32) (v3 : Int32) (v4 : Int32) (v5 : Int32) (v6 : Int32) (v7 : Int32) : Sm mX9_found rI 0 0 0 [some (.ref r0), some (.int v1), some (.int v2), some (.int v3), some (.int v4), some (.int v5), some (.int v6), some (.int v7), none, none] [] (fX9_found r0 v1 v2 v3 v4 v5 v6 v7) := by
  unfold fX9_found
  refine S_iconst (pc := 0) (v := (nI 0)) dX9_found_0 kI_0 ?_
  refine Z_istore (pc := 1) (lv' := [some (.ref r0), some (.int v1), some (.int v2), some (.int v3), some (.int v4), some (.int v5), some (.int v6), some (.int v7), some (.int (nI 0)), none]) dX9_found_1 rfl rfl rfl ?_
  exact (sX9_found_3 fuel r0 v1 v2 v3 v4 v5 v6 v7 (nI 0))
theorem ktX9_found (r0 : Nat) (v1 : Int32) (v2 : Int32) (v3 : Int32) (v4 : Int32) (v5 : Int32) (v6 : Int32) (v7 : Int32) : Ct mX9_found rI [.ref r0, .int v1, .int v2, .int v3, .int v4, .int v5, .int v6, .int v7] (fX9_found r0 v1 v2 v3 v4 v5 v6 v7) := Ct.of (z := 2) pn_X9 rfl rfl rfl (sX9_found r0 v1 v2 v3 v4 v5 v6 v7)
def mX9_ownField : MI := (yX9_ownField, cX9_ownField, 7, (some .int), { frames := 4, cells := 0, slots := 0, locals := 98 }, [])
theorem mw_X9_ownField : MW mX9_ownField 5 := ⟨w1238, w11, ⟨by decide, by decide⟩, by decide +kernel⟩
theorem mv_X9_ownField : MV mX9_ownField 9 := ⟨_, rfl, w1237, wp46⟩
def fX9_ownField  (r0 : Nat) (v1 : Int32) (v2 : Int32) (v3 : Int32) (v4 : Int32) (v5 : Int32) : AH → Option (Int32 × AH) := fun h =>
  cv 9 r0 (fX9_found r0 v1 v2 (nI 0) v3 (nI 0) (-2 : Int32) (-2 : Int32)) h fun x_3 h =>
  if x_3 = (-2 : Int32) then (
    some ((-2 : Int32), h))
  else
  if v4 = 0 then (
    cv 9 r0 (fX9_its r0 v1 x_3 (nI 5)) h fun x_4 h =>
    if x_4 = v5 then (
      some (x_3, h))
    else
    some ((-2 : Int32), h))
  else
  some (x_3, h)
theorem sX9_ownField  (r0 : Nat) (v1 : Int32) (v2 : Int32) (v3 : Int32) (v4 : Int32) (v5 : Int32) : Sm mX9_ownField rI 0 0 0 [some (.ref r0), some (.int v1), some (.int v2), some (.int v3), some (.int v4), some (.int v5), none] [] (fX9_ownField r0 v1 v2 v3 v4 v5) := by
  unfold fX9_ownField
  refine S_aload_n (pc := 0) dX9_ownField_0 rfl ?_
  refine S_iload_n (pc := 1) dX9_ownField_1 rfl ?_
  refine S_iload_n (pc := 2) dX9_ownField_2 rfl ?_
  refine S_iconst (pc := 3) (v := (nI 0)) dX9_ownField_3 kI_0 ?_
  refine S_iload_n (pc := 4) dX9_ownField_4 rfl ?_
  refine S_iconst (pc := 5) (v := (nI 0)) dX9_ownField_5 kI_0 ?_
  refine S_bipush (pc := 6) (v := (-2 : Int32)) dX9_ownField_6 kB_m2 ?_
  refine S_bipush (pc := 8) (v := (-2 : Int32)) dX9_ownField_8 kB_m2 ?_
  refine Y_Vi (pc := 10) (st := []) (kc' := 0) (ks' := 0) (ktX9_found r0 v1 v2 (nI 0) v3 (nI 0) (-2 : Int32) (-2 : Int32)) mw_X9_found mv_X9_found w1239 (RO.mk rfl rfl rfl rfl) rfl rfl rfl dX9_ownField_10 ⟨rfl, rfl⟩ (fun x_3 => ?_)
  refine Z_istore (pc := 13) (lv' := [some (.ref r0), some (.int v1), some (.int v2), some (.int v3), some (.int v4), some (.int v5), some (.int x_3)]) dX9_ownField_13 rfl rfl rfl ?_
  refine S_iload (pc := 15) dX9_ownField_15 rfl ?_
  refine S_bipush (pc := 17) (v := (-2 : Int32)) dX9_ownField_17 kB_m2 ?_
  refine S_icmpeq (pc := 19) (tgt := 45) dX9_ownField_19 (by decide) ?_ ?_
  · refine S_bipush (pc := 45) (v := (-2 : Int32)) dX9_ownField_45 kB_m2 ?_
    exact S_iret (pc := 47) ⟨rfl, rfl⟩ rfl rfl dX9_ownField_47
  · refine S_iload (pc := 22) dX9_ownField_22 rfl ?_
    refine S_ifne (pc := 24) (tgt := 40) dX9_ownField_24 (by decide) ?_ ?_
    · refine S_iload (pc := 40) dX9_ownField_40 rfl ?_
      refine S_goto (pc := 42) (tgt := 47) dX9_ownField_42 (by decide) ?_
      exact S_iret (pc := 47) ⟨rfl, rfl⟩ rfl rfl dX9_ownField_47
    · refine S_aload_n (pc := 27) dX9_ownField_27 rfl ?_
      refine S_iload_n (pc := 28) dX9_ownField_28 rfl ?_
      refine S_iload (pc := 29) dX9_ownField_29 rfl ?_
      refine S_iconst (pc := 31) (v := (nI 5)) dX9_ownField_31 kI_5 ?_
      refine Y_Vi (pc := 32) (st := []) (kc' := 0) (ks' := 0) (ktX9_its r0 v1 x_3 (nI 5)) mw_X9_its mv_X9_its w1243 (RO.mk rfl rfl rfl rfl) rfl rfl rfl dX9_ownField_32 ⟨rfl, rfl⟩ (fun x_4 => ?_)
      refine S_iload (pc := 35) dX9_ownField_35 rfl ?_
      refine S_icmpne (pc := 37) (tgt := 45) dX9_ownField_37 (by decide) ?_ ?_
      · refine S_bipush (pc := 45) (v := (-2 : Int32)) dX9_ownField_45 kB_m2 ?_
        exact S_iret (pc := 47) ⟨rfl, rfl⟩ rfl rfl dX9_ownField_47
      · refine S_iload (pc := 40) dX9_ownField_40 rfl ?_
        refine S_goto (pc := 42) (tgt := 47) dX9_ownField_42 (by decide) ?_
        exact S_iret (pc := 47) ⟨rfl, rfl⟩ rfl rfl dX9_ownField_47
theorem ktX9_ownField (r0 : Nat) (v1 : Int32) (v2 : Int32) (v3 : Int32) (v4 : Int32) (v5 : Int32) : Ct mX9_ownField rI [.ref r0, .int v1, .int v2, .int v3, .int v4, .int v5] (fX9_ownField r0 v1 v2 v3 v4 v5) := Ct.of (z := 1) pn_X9 rfl rfl rfl (sX9_ownField r0 v1 v2 v3 v4 v5)
def mX9_has : MI := (yX9_has, cX9_has, 2, (some .boolean), { frames := 0, cells := 0, slots := 0, locals := 0 }, [])
theorem mw_X9_has : MW mX9_has 2 := ⟨w1253, w11, ⟨by decide, by decide⟩, by decide +kernel⟩
def fX9_has  (v0 : Int32) (v1 : Int32) : AH → Option (Int32 × AH) := fun h =>
  if ((v0 >>> (v1 &&& 31)) &&& (nI 1)) = (nI 1) then (
    rz (nI 1) (nI 1) h)
  else
  rz (nI 0) (nI 0) h
theorem sX9_has  (v0 : Int32) (v1 : Int32) : Sm mX9_has rI 0 0 0 [some (.int v0), some (.int v1)] [] (fX9_has v0 v1) := by
  unfold fX9_has
  refine S_iload_n (pc := 0) dX9_has_0 rfl ?_
  refine S_iload_n (pc := 1) dX9_has_1 rfl ?_
  refine S_ishr (pc := 2) dX9_has_2 ?_
  refine S_iconst (pc := 3) (v := (nI 1)) dX9_has_3 kI_1 ?_
  refine S_iand (pc := 4) dX9_has_4 ?_
  refine S_iconst (pc := 5) (v := (nI 1)) dX9_has_5 kI_1 ?_
  refine S_icmpne (pc := 6) (tgt := 13) dX9_has_6 (by decide) ?_ ?_
  · refine S_iconst (pc := 13) (v := (nI 0)) dX9_has_13 kI_0 ?_
    exact S_zret (pc := 14) ⟨rfl, rfl⟩ rfl rfl dX9_has_14
  · refine S_iconst (pc := 9) (v := (nI 1)) dX9_has_9 kI_1 ?_
    refine S_goto (pc := 10) (tgt := 14) dX9_has_10 (by decide) ?_
    exact S_zret (pc := 14) ⟨rfl, rfl⟩ rfl rfl dX9_has_14
theorem ktX9_has (v0 : Int32) (v1 : Int32) : Ct mX9_has rI [.int v0, .int v1] (fX9_has v0 v1) := Ct.of (z := 0) pn_X9 rfl rfl rfl (sX9_has v0 v1)
def mX9_fieldOf : MI := (yX9_fieldOf, cX9_fieldOf, 9, (some .int), { frames := 5, cells := 0, slots := 0, locals := 124 }, [])
theorem mw_X9_fieldOf : MW mX9_fieldOf 5 := ⟨w1234, w11, ⟨by decide, by decide⟩, by decide +kernel⟩
theorem mv_X9_fieldOf : MV mX9_fieldOf 9 := ⟨_, rfl, w1233, wp45⟩
def fX9_fieldOf_89 (k3 : Nat → Int32 → Int32 → Int32 → Int32 → Int32 → Int32 → AH → Option (Int32 × AH)) (k47 : Nat → Int32 → Int32 → Int32 → Int32 → Int32 → Int32 → Int32 → Int32 → AH → Option (Int32 × AH)) (r0 : Nat) (v1 : Int32) (v2 : Int32) (v3 : Int32) (v4 : Int32) (v5 : Int32) (v6 : Int32) (v8 : Int32) (s0 : Int32) : AH → Option (Int32 × AH) := fun h =>
  k47 r0 v1 v2 v3 v4 v5 v6 s0 (v8 + (nI 1)) h
def fX9_fieldOf_134 (k3 : Nat → Int32 → Int32 → Int32 → Int32 → Int32 → Int32 → AH → Option (Int32 × AH)) (r0 : Nat) (v1 : Int32) (v2 : Int32) (v3 : Int32) (v4 : Int32) (v5 : Int32) (v6 : Int32) : AH → Option (Int32 × AH) := fun h =>
  k3 r0 v1 v2 v3 v4 v5 (v6 + (nI 1)) h
def fX9_fieldOf_133 (k3 : Nat → Int32 → Int32 → Int32 → Int32 → Int32 → Int32 → AH → Option (Int32 × AH)) (r0 : Nat) (v1 : Int32) (v2 : Int32) (v3 : Int32) (v4 : Int32) (v5 : Int32) (v6 : Int32) (s0 : Nat) (s1 : Int32) (s2 : Int32) : AH → Option (Int32 × AH) := fun h =>
  (stI s0 s1 s2 h).bind fun h =>
  fX9_fieldOf_134 k3 r0 v1 v2 v3 v4 v5 v6 h
def fX9_fieldOf_131 (k3 : Nat → Int32 → Int32 → Int32 → Int32 → Int32 → Int32 → AH → Option (Int32 × AH)) (r0 : Nat) (v1 : Int32) (v2 : Int32) (v3 : Int32) (v4 : Int32) (v5 : Int32) (v6 : Int32) (v7 : Int32) (s0 : Nat) (s1 : Int32) : AH → Option (Int32 × AH) := fun h =>
  fX9_fieldOf_133 k3 r0 v1 v2 v3 v4 v5 v6 s0 s1 v7 h
def fX9_fieldOf_97 (k3 : Nat → Int32 → Int32 → Int32 → Int32 → Int32 → Int32 → AH → Option (Int32 × AH)) (r0 : Nat) (v1 : Int32) (v2 : Int32) (v3 : Int32) (v4 : Int32) (v5 : Int32) (v6 : Int32) (v7 : Int32) : AH → Option (Int32 × AH) := fun h =>
  (gP 9 r0 5 h).bind fun a_27 =>
  if v7 = (-2 : Int32) then (
    if v6 ≤ 0 then (
      fX9_fieldOf_131 k3 r0 v1 v2 v3 v4 v5 v6 v7 a_27 v6 h)
    else
    (gP 9 r0 5 h).bind fun a_28 =>
    cv 9 r0 (fX9_of r0 v1 v6 (nI 2)) h fun x_29 h =>
    (ldI a_28 x_29 h).bind fun x_30 =>
    fX9_fieldOf_133 k3 r0 v1 v2 v3 v4 v5 v6 a_27 v6 x_30 h)
  else
  fX9_fieldOf_131 k3 r0 v1 v2 v3 v4 v5 v6 v7 a_27 v6 h
def bX9_fieldOf_47 (k3 : Nat → Int32 → Int32 → Int32 → Int32 → Int32 → Int32 → AH → Option (Int32 × AH)) (k47 : Nat → Int32 → Int32 → Int32 → Int32 → Int32 → Int32 → Int32 → Int32 → AH → Option (Int32 × AH)) (r0 : Nat) (v1 : Int32) (v2 : Int32) (v3 : Int32) (v4 : Int32) (v5 : Int32) (v6 : Int32) (v7 : Int32) (v8 : Int32) : AH → Option (Int32 × AH) := fun h =>
  if v6 ≤ v8 then (
    fX9_fieldOf_97 k3 r0 v1 v2 v3 v4 v5 v6 v7 h)
  else
  if v7 = (-2 : Int32) then (
    cv 9 r0 (fX9_of r0 v1 v6 (nI 3)) h fun x_31 h =>
    bd (fX9_has x_31 v8 h) fun x_32 h =>
    if x_32 = 0 then (
      fX9_fieldOf_89 k3 k47 r0 v1 v2 v3 v4 v5 v6 v8 (-2 : Int32) h)
    else
    (gP 9 r0 5 h).bind fun a_33 =>
    (ldI a_33 v8 h).bind fun x_34 =>
    fX9_fieldOf_89 k3 k47 r0 v1 v2 v3 v4 v5 v6 v8 x_34 h)
  else
  fX9_fieldOf_97 k3 r0 v1 v2 v3 v4 v5 v6 v7 h
def lX9_fieldOf_47 (k3 : Nat → Int32 → Int32 → Int32 → Int32 → Int32 → Int32 → AH → Option (Int32 × AH)) : Nat → Nat → Int32 → Int32 → Int32 → Int32 → Int32 → Int32 → Int32 → Int32 → AH → Option (Int32 × AH)
  | 0 => fun _ _ _ _ _ _ _ _ _ _ => none
  | n + 1 => bX9_fieldOf_47 k3 (lX9_fieldOf_47 k3 n)
def bX9_fieldOf_3  (k3 : Nat → Int32 → Int32 → Int32 → Int32 → Int32 → Int32 → AH → Option (Int32 × AH)) (r0 : Nat) (v1 : Int32) (v2 : Int32) (v3 : Int32) (v4 : Int32) (v5 : Int32) (v6 : Int32) : AH → Option (Int32 × AH) := fun h =>
  if v2 < v6 then (
    (gP 9 r0 5 h).bind fun a_35 =>
    (ldI a_35 v2 h).bind fun x_36 =>
    some (x_36, h))
  else
  (gP 9 r0 5 h).bind fun a_37 =>
  (stI a_37 v6 (-2 : Int32) h).bind fun h =>
  cv 9 r0 (fX9_of r0 v1 v6 (nI 0)) h fun x_38 h =>
  if x_38 = (nI 1) then (
    cv 9 r0 (fX9_ownField r0 v1 v6 v3 v4 v5) h fun x_39 h =>
    lX9_fieldOf_47 k3 fuel r0 v1 v2 v3 v4 v5 v6 x_39 (nI 0) h)
  else
  fX9_fieldOf_134 k3 r0 v1 v2 v3 v4 v5 v6 h
def lX9_fieldOf_3  : Nat → Nat → Int32 → Int32 → Int32 → Int32 → Int32 → Int32 → AH → Option (Int32 × AH)
  | 0 => fun _ _ _ _ _ _ _ _ => none
  | n + 1 => bX9_fieldOf_3 (lX9_fieldOf_3 n)
def fX9_fieldOf  (r0 : Nat) (v1 : Int32) (v2 : Int32) (v3 : Int32) (v4 : Int32) (v5 : Int32) : AH → Option (Int32 × AH) := fun h =>
  lX9_fieldOf_3 fuel r0 v1 v2 v3 v4 v5 (nI 0) h
theorem sX9_fieldOf_89 {k3 : Nat → Int32 → Int32 → Int32 → Int32 → Int32 → Int32 → AH → Option (Int32 × AH)} (h3 : ∀ (r0 : Nat) (v1 : Int32) (v2 : Int32) (v3 : Int32) (v4 : Int32) (v5 : Int32) (v6 : Int32), Sm mX9_fieldOf rI 0 0 3 [some (.ref r0), some (.int v1), some (.int v2), some (.int v3), some (.int v4), some (.int v5), some (.int v6), none, none] [] (k3 r0 v1 v2 v3 v4 v5 v6)) {k47 : Nat → Int32 → Int32 → Int32 → Int32 → Int32 → Int32 → Int32 → Int32 → AH → Option (Int32 × AH)} (h47 : ∀ (r0 : Nat) (v1 : Int32) (v2 : Int32) (v3 : Int32) (v4 : Int32) (v5 : Int32) (v6 : Int32) (v7 : Int32) (v8 : Int32), Sm mX9_fieldOf rI 0 0 47 [some (.ref r0), some (.int v1), some (.int v2), some (.int v3), some (.int v4), some (.int v5), some (.int v6), some (.int v7), some (.int v8)] [] (k47 r0 v1 v2 v3 v4 v5 v6 v7 v8)) (r0 : Nat) (v1 : Int32) (v2 : Int32) (v3 : Int32) (v4 : Int32) (v5 : Int32) (v6 : Int32) (v8 : Int32) (s0 : Int32) : Sm mX9_fieldOf rI 0 0 89 [some (.ref r0), some (.int v1), some (.int v2), some (.int v3), some (.int v4), some (.int v5), some (.int v6), none, some (.int v8)] [.int s0] (fX9_fieldOf_89 k3 k47 r0 v1 v2 v3 v4 v5 v6 v8 s0) := by
  unfold fX9_fieldOf_89
  refine Z_istore (pc := 89) (lv' := [some (.ref r0), some (.int v1), some (.int v2), some (.int v3), some (.int v4), some (.int v5), some (.int v6), some (.int s0), some (.int v8)]) dX9_fieldOf_89 rfl rfl rfl ?_
  refine Z_iinc (pc := 91) (v := (nI 1)) (lv' := [some (.ref r0), some (.int v1), some (.int v2), some (.int v3), some (.int v4), some (.int v5), some (.int v6), some (.int s0), some (.int (v8 + (nI 1)))]) dX9_fieldOf_91 rfl kI_1 rfl rfl rfl ?_
  refine S_goto (pc := 94) (tgt := 47) dX9_fieldOf_94 (by decide) ?_
  exact (h47 r0 v1 v2 v3 v4 v5 v6 s0 (v8 + (nI 1)))
theorem sX9_fieldOf_134 {k3 : Nat → Int32 → Int32 → Int32 → Int32 → Int32 → Int32 → AH → Option (Int32 × AH)} (h3 : ∀ (r0 : Nat) (v1 : Int32) (v2 : Int32) (v3 : Int32) (v4 : Int32) (v5 : Int32) (v6 : Int32), Sm mX9_fieldOf rI 0 0 3 [some (.ref r0), some (.int v1), some (.int v2), some (.int v3), some (.int v4), some (.int v5), some (.int v6), none, none] [] (k3 r0 v1 v2 v3 v4 v5 v6)) (r0 : Nat) (v1 : Int32) (v2 : Int32) (v3 : Int32) (v4 : Int32) (v5 : Int32) (v6 : Int32) : Sm mX9_fieldOf rI 0 0 134 [some (.ref r0), some (.int v1), some (.int v2), some (.int v3), some (.int v4), some (.int v5), some (.int v6), none, none] [] (fX9_fieldOf_134 k3 r0 v1 v2 v3 v4 v5 v6) := by
  unfold fX9_fieldOf_134
  refine Z_iinc (pc := 134) (v := (nI 1)) (lv' := [some (.ref r0), some (.int v1), some (.int v2), some (.int v3), some (.int v4), some (.int v5), some (.int (v6 + (nI 1))), none, none]) dX9_fieldOf_134 rfl kI_1 rfl rfl rfl ?_
  refine S_goto (pc := 137) (tgt := 3) dX9_fieldOf_137 (by decide) ?_
  exact (h3 r0 v1 v2 v3 v4 v5 (v6 + (nI 1)))
theorem sX9_fieldOf_133 {k3 : Nat → Int32 → Int32 → Int32 → Int32 → Int32 → Int32 → AH → Option (Int32 × AH)} (h3 : ∀ (r0 : Nat) (v1 : Int32) (v2 : Int32) (v3 : Int32) (v4 : Int32) (v5 : Int32) (v6 : Int32), Sm mX9_fieldOf rI 0 0 3 [some (.ref r0), some (.int v1), some (.int v2), some (.int v3), some (.int v4), some (.int v5), some (.int v6), none, none] [] (k3 r0 v1 v2 v3 v4 v5 v6)) (r0 : Nat) (v1 : Int32) (v2 : Int32) (v3 : Int32) (v4 : Int32) (v5 : Int32) (v6 : Int32) (s0 : Nat) (s1 : Int32) (s2 : Int32) : Sm mX9_fieldOf rI 0 0 133 [some (.ref r0), some (.int v1), some (.int v2), some (.int v3), some (.int v4), some (.int v5), some (.int v6), none, none] [.int s2, .int s1, .ref s0] (fX9_fieldOf_133 k3 r0 v1 v2 v3 v4 v5 v6 s0 s1 s2) := by
  unfold fX9_fieldOf_133
  refine S_stI (pc := 133) dX9_fieldOf_133 ?_
  exact (sX9_fieldOf_134 h3 r0 v1 v2 v3 v4 v5 v6)
theorem sX9_fieldOf_131 {k3 : Nat → Int32 → Int32 → Int32 → Int32 → Int32 → Int32 → AH → Option (Int32 × AH)} (h3 : ∀ (r0 : Nat) (v1 : Int32) (v2 : Int32) (v3 : Int32) (v4 : Int32) (v5 : Int32) (v6 : Int32), Sm mX9_fieldOf rI 0 0 3 [some (.ref r0), some (.int v1), some (.int v2), some (.int v3), some (.int v4), some (.int v5), some (.int v6), none, none] [] (k3 r0 v1 v2 v3 v4 v5 v6)) (r0 : Nat) (v1 : Int32) (v2 : Int32) (v3 : Int32) (v4 : Int32) (v5 : Int32) (v6 : Int32) (v7 : Int32) (s0 : Nat) (s1 : Int32) : Sm mX9_fieldOf rI 0 0 131 [some (.ref r0), some (.int v1), some (.int v2), some (.int v3), some (.int v4), some (.int v5), some (.int v6), some (.int v7), none] [.int s1, .ref s0] (fX9_fieldOf_131 k3 r0 v1 v2 v3 v4 v5 v6 v7 s0 s1) := by
  unfold fX9_fieldOf_131
  refine S_iload (pc := 131) dX9_fieldOf_131 rfl ?_
  exact (S_lv (lv0 := [some (.ref r0), some (.int v1), some (.int v2), some (.int v3), some (.int v4), some (.int v5), some (.int v6), none, none]) (And.intro rfl (And.intro rfl (And.intro rfl (And.intro rfl (And.intro rfl (And.intro rfl (And.intro rfl trivial))))))) (sX9_fieldOf_133 h3 r0 v1 v2 v3 v4 v5 v6 s0 s1 v7))
theorem sX9_fieldOf_97 {k3 : Nat → Int32 → Int32 → Int32 → Int32 → Int32 → Int32 → AH → Option (Int32 × AH)} (h3 : ∀ (r0 : Nat) (v1 : Int32) (v2 : Int32) (v3 : Int32) (v4 : Int32) (v5 : Int32) (v6 : Int32), Sm mX9_fieldOf rI 0 0 3 [some (.ref r0), some (.int v1), some (.int v2), some (.int v3), some (.int v4), some (.int v5), some (.int v6), none, none] [] (k3 r0 v1 v2 v3 v4 v5 v6)) (r0 : Nat) (v1 : Int32) (v2 : Int32) (v3 : Int32) (v4 : Int32) (v5 : Int32) (v6 : Int32) (v7 : Int32) : Sm mX9_fieldOf rI 0 0 97 [some (.ref r0), some (.int v1), some (.int v2), some (.int v3), some (.int v4), some (.int v5), some (.int v6), some (.int v7), none] [] (fX9_fieldOf_97 k3 r0 v1 v2 v3 v4 v5 v6 v7) := by
  unfold fX9_fieldOf_97
  refine S_aload_n (pc := 97) dX9_fieldOf_97 rfl ?_
  refine S_gP (pc := 98) fl_X9_19 rfl dX9_fieldOf_98 (fun a_27 => ?_)
  refine S_iload (pc := 101) dX9_fieldOf_101 rfl ?_
  refine S_iload (pc := 103) dX9_fieldOf_103 rfl ?_
  refine S_bipush (pc := 105) (v := (-2 : Int32)) dX9_fieldOf_105 kB_m2 ?_
  refine S_icmpne (pc := 107) (tgt := 131) dX9_fieldOf_107 (by decide) ?_ ?_
  · exact (sX9_fieldOf_131 h3 r0 v1 v2 v3 v4 v5 v6 v7 a_27 v6)
  · refine S_iload (pc := 110) dX9_fieldOf_110 rfl ?_
    refine S_ifle (pc := 112) (tgt := 131) dX9_fieldOf_112 (by decide) ?_ ?_
    · exact (sX9_fieldOf_131 h3 r0 v1 v2 v3 v4 v5 v6 v7 a_27 v6)
    · refine S_aload_n (pc := 115) dX9_fieldOf_115 rfl ?_
      refine S_gP (pc := 116) fl_X9_19 rfl dX9_fieldOf_116 (fun a_28 => ?_)
      refine S_aload_n (pc := 119) dX9_fieldOf_119 rfl ?_
      refine S_iload_n (pc := 120) dX9_fieldOf_120 rfl ?_
      refine S_iload (pc := 121) dX9_fieldOf_121 rfl ?_
      refine S_iconst (pc := 123) (v := (nI 2)) dX9_fieldOf_123 kI_2 ?_
      refine Y_Vi (pc := 124) (st := [.ref a_28, .int v6, .ref a_27]) (kc' := 0) (ks' := 0) (ktX9_of r0 v1 v6 (nI 2)) mw_X9_of mv_X9_of w1219 (RO.mk rfl rfl rfl rfl) rfl rfl rfl dX9_fieldOf_124 ⟨rfl, rfl⟩ (fun x_29 => ?_)
      refine S_ldI (pc := 127) dX9_fieldOf_127 (fun x_30 => ?_)
      refine S_goto (pc := 128) (tgt := 133) dX9_fieldOf_128 (by decide) ?_
      exact (S_lv (lv0 := [some (.ref r0), some (.int v1), some (.int v2), some (.int v3), some (.int v4), some (.int v5), some (.int v6), none, none]) (And.intro rfl (And.intro rfl (And.intro rfl (And.intro rfl (And.intro rfl (And.intro rfl (And.intro rfl trivial))))))) (sX9_fieldOf_133 h3 r0 v1 v2 v3 v4 v5 v6 a_27 v6 x_30))
theorem sbX9_fieldOf_47 {k3 : Nat → Int32 → Int32 → Int32 → Int32 → Int32 → Int32 → AH → Option (Int32 × AH)} (h3 : ∀ (r0 : Nat) (v1 : Int32) (v2 : Int32) (v3 : Int32) (v4 : Int32) (v5 : Int32) (v6 : Int32), Sm mX9_fieldOf rI 0 0 3 [some (.ref r0), some (.int v1), some (.int v2), some (.int v3), some (.int v4), some (.int v5), some (.int v6), none, none] [] (k3 r0 v1 v2 v3 v4 v5 v6)) {k47 : Nat → Int32 → Int32 → Int32 → Int32 → Int32 → Int32 → Int32 → Int32 → AH → Option (Int32 × AH)} (h47 : ∀ (r0 : Nat) (v1 : Int32) (v2 : Int32) (v3 : Int32) (v4 : Int32) (v5 : Int32) (v6 : Int32) (v7 : Int32) (v8 : Int32), Sm mX9_fieldOf rI 0 0 47 [some (.ref r0), some (.int v1), some (.int v2), some (.int v3), some (.int v4), some (.int v5), some (.int v6), some (.int v7), some (.int v8)] [] (k47 r0 v1 v2 v3 v4 v5 v6 v7 v8)) (r0 : Nat) (v1 : Int32) (v2 : Int32) (v3 : Int32) (v4 : Int32) (v5 : Int32) (v6 : Int32) (v7 : Int32) (v8 : Int32) : Sm mX9_fieldOf rI 0 0 47 [some (.ref r0), some (.int v1), some (.int v2), some (.int v3), some (.int v4), some (.int v5), some (.int v6), some (.int v7), some (.int v8)] [] (bX9_fieldOf_47 k3 k47 r0 v1 v2 v3 v4 v5 v6 v7 v8) := by
  unfold bX9_fieldOf_47
  refine S_iload (pc := 47) dX9_fieldOf_47 rfl ?_
  refine S_iload (pc := 49) dX9_fieldOf_49 rfl ?_
  refine S_icmpge (pc := 51) (tgt := 97) dX9_fieldOf_51 (by decide) ?_ ?_
  · exact (S_lv (lv0 := [some (.ref r0), some (.int v1), some (.int v2), some (.int v3), some (.int v4), some (.int v5), some (.int v6), some (.int v7), none]) (And.intro rfl (And.intro rfl (And.intro rfl (And.intro rfl (And.intro rfl (And.intro rfl (And.intro rfl (And.intro rfl trivial)))))))) (sX9_fieldOf_97 h3 r0 v1 v2 v3 v4 v5 v6 v7))
  · refine S_iload (pc := 54) dX9_fieldOf_54 rfl ?_
    refine S_bipush (pc := 56) (v := (-2 : Int32)) dX9_fieldOf_56 kB_m2 ?_
    refine S_icmpne (pc := 58) (tgt := 97) dX9_fieldOf_58 (by decide) ?_ ?_
    · exact (S_lv (lv0 := [some (.ref r0), some (.int v1), some (.int v2), some (.int v3), some (.int v4), some (.int v5), some (.int v6), some (.int v7), none]) (And.intro rfl (And.intro rfl (And.intro rfl (And.intro rfl (And.intro rfl (And.intro rfl (And.intro rfl (And.intro rfl trivial)))))))) (sX9_fieldOf_97 h3 r0 v1 v2 v3 v4 v5 v6 v7))
    · refine S_aload_n (pc := 61) dX9_fieldOf_61 rfl ?_
      refine S_iload_n (pc := 62) dX9_fieldOf_62 rfl ?_
      refine S_iload (pc := 63) dX9_fieldOf_63 rfl ?_
      refine S_iconst (pc := 65) (v := (nI 3)) dX9_fieldOf_65 kI_3 ?_
      refine Y_Vi (pc := 66) (st := []) (kc' := 0) (ks' := 0) (ktX9_of r0 v1 v6 (nI 3)) mw_X9_of mv_X9_of w1219 (RO.mk rfl rfl rfl rfl) rfl rfl rfl dX9_fieldOf_66 ⟨rfl, rfl⟩ (fun x_31 => ?_)
      refine S_iload (pc := 69) dX9_fieldOf_69 rfl ?_
      refine Y_Ti (pc := 71) (st := []) (kc' := 0) (ks' := 0) (ktX9_has x_31 v8) mw_X9_has w1252 w1251 (RO.mk rfl rfl rfl rfl) rfl rfl rfl dX9_fieldOf_71 ⟨rfl, rfl⟩ (fun x_32 => ?_)
      refine S_ifeq (pc := 74) (tgt := 87) dX9_fieldOf_74 (by decide) ?_ ?_
      · refine S_bipush (pc := 87) (v := (-2 : Int32)) dX9_fieldOf_87 kB_m2 ?_
        exact (S_lv (lv0 := [some (.ref r0), some (.int v1), some (.int v2), some (.int v3), some (.int v4), some (.int v5), some (.int v6), none, some (.int v8)]) (And.intro rfl (And.intro rfl (And.intro rfl (And.intro rfl (And.intro rfl (And.intro rfl (And.intro rfl (And.intro rfl trivial)))))))) (sX9_fieldOf_89 h3 h47 r0 v1 v2 v3 v4 v5 v6 v8 (-2 : Int32)))
      · refine S_aload_n (pc := 77) dX9_fieldOf_77 rfl ?_
        refine S_gP (pc := 78) fl_X9_19 rfl dX9_fieldOf_78 (fun a_33 => ?_)
        refine S_iload (pc := 81) dX9_fieldOf_81 rfl ?_
        refine S_ldI (pc := 83) dX9_fieldOf_83 (fun x_34 => ?_)
        refine S_goto (pc := 84) (tgt := 89) dX9_fieldOf_84 (by decide) ?_
        exact (S_lv (lv0 := [some (.ref r0), some (.int v1), some (.int v2), some (.int v3), some (.int v4), some (.int v5), some (.int v6), none, some (.int v8)]) (And.intro rfl (And.intro rfl (And.intro rfl (And.intro rfl (And.intro rfl (And.intro rfl (And.intro rfl (And.intro rfl trivial)))))))) (sX9_fieldOf_89 h3 h47 r0 v1 v2 v3 v4 v5 v6 v8 x_34))
theorem sX9_fieldOf_47 {k3 : Nat → Int32 → Int32 → Int32 → Int32 → Int32 → Int32 → AH → Option (Int32 × AH)} (h3 : ∀ (r0 : Nat) (v1 : Int32) (v2 : Int32) (v3 : Int32) (v4 : Int32) (v5 : Int32) (v6 : Int32), Sm mX9_fieldOf rI 0 0 3 [some (.ref r0), some (.int v1), some (.int v2), some (.int v3), some (.int v4), some (.int v5), some (.int v6), none, none] [] (k3 r0 v1 v2 v3 v4 v5 v6)) : ∀ (n : Nat) (r0 : Nat) (v1 : Int32) (v2 : Int32) (v3 : Int32) (v4 : Int32) (v5 : Int32) (v6 : Int32) (v7 : Int32) (v8 : Int32), Sm mX9_fieldOf rI 0 0 47 [some (.ref r0), some (.int v1), some (.int v2), some (.int v3), some (.int v4), some (.int v5), some (.int v6), some (.int v7), some (.int v8)] [] (lX9_fieldOf_47 k3 n r0 v1 v2 v3 v4 v5 v6 v7 v8)
  | 0, _, _, _, _, _, _, _, _, _ => S_none
  | n + 1, r0, v1, v2, v3, v4, v5, v6, v7, v8 => sbX9_fieldOf_47 h3 (sX9_fieldOf_47 h3 n) r0 v1 v2 v3 v4 v5 v6 v7 v8
theorem sbX9_fieldOf_3  {k3 : Nat → Int32 → Int32 → Int32 → Int32 → Int32 → Int32 → AH → Option (Int32 × AH)} (h3 : ∀ (r0 : Nat) (v1 : Int32) (v2 : Int32) (v3 : Int32) (v4 : Int32) (v5 : Int32) (v6 : Int32), Sm mX9_fieldOf rI 0 0 3 [some (.ref r0), some (.int v1), some (.int v2), some (.int v3), some (.int v4), some (.int v5), some (.int v6), none, none] [] (k3 r0 v1 v2 v3 v4 v5 v6)) (r0 : Nat) (v1 : Int32) (v2 : Int32) (v3 : Int32) (v4 : Int32) (v5 : Int32) (v6 : Int32) : Sm mX9_fieldOf rI 0 0 3 [some (.ref r0), some (.int v1), some (.int v2), some (.int v3), some (.int v4), some (.int v5), some (.int v6), none, none] [] (bX9_fieldOf_3 k3 r0 v1 v2 v3 v4 v5 v6) := by
  unfold bX9_fieldOf_3
  refine S_iload (pc := 3) dX9_fieldOf_3 rfl ?_
  refine S_iload_n (pc := 5) dX9_fieldOf_5 rfl ?_
  refine S_icmpgt (pc := 6) (tgt := 140) dX9_fieldOf_6 (by decide) ?_ ?_
  · refine S_aload_n (pc := 140) dX9_fieldOf_140 rfl ?_
    refine S_gP (pc := 141) fl_X9_19 rfl dX9_fieldOf_141 (fun a_35 => ?_)
    refine S_iload_n (pc := 144) dX9_fieldOf_144 rfl ?_
    refine S_ldI (pc := 145) dX9_fieldOf_145 (fun x_36 => ?_)
    exact S_iret (pc := 146) ⟨rfl, rfl⟩ rfl rfl dX9_fieldOf_146
  · refine S_aload_n (pc := 9) dX9_fieldOf_9 rfl ?_
    refine S_gP (pc := 10) fl_X9_19 rfl dX9_fieldOf_10 (fun a_37 => ?_)
    refine S_iload (pc := 13) dX9_fieldOf_13 rfl ?_
    refine S_bipush (pc := 15) (v := (-2 : Int32)) dX9_fieldOf_15 kB_m2 ?_
    refine S_stI (pc := 17) dX9_fieldOf_17 ?_
    refine S_aload_n (pc := 18) dX9_fieldOf_18 rfl ?_
    refine S_iload_n (pc := 19) dX9_fieldOf_19 rfl ?_
    refine S_iload (pc := 20) dX9_fieldOf_20 rfl ?_
    refine S_iconst (pc := 22) (v := (nI 0)) dX9_fieldOf_22 kI_0 ?_
    refine Y_Vi (pc := 23) (st := []) (kc' := 0) (ks' := 0) (ktX9_of r0 v1 v6 (nI 0)) mw_X9_of mv_X9_of w1219 (RO.mk rfl rfl rfl rfl) rfl rfl rfl dX9_fieldOf_23 ⟨rfl, rfl⟩ (fun x_38 => ?_)
    refine S_iconst (pc := 26) (v := (nI 1)) dX9_fieldOf_26 kI_1 ?_
    refine S_icmpne (pc := 27) (tgt := 134) dX9_fieldOf_27 (by decide) ?_ ?_
    · exact (sX9_fieldOf_134 h3 r0 v1 v2 v3 v4 v5 v6)
    · refine S_aload_n (pc := 30) dX9_fieldOf_30 rfl ?_
      refine S_iload_n (pc := 31) dX9_fieldOf_31 rfl ?_
      refine S_iload (pc := 32) dX9_fieldOf_32 rfl ?_
      refine S_iload_n (pc := 34) dX9_fieldOf_34 rfl ?_
      refine S_iload (pc := 35) dX9_fieldOf_35 rfl ?_
      refine S_iload (pc := 37) dX9_fieldOf_37 rfl ?_
      refine Y_Vi (pc := 39) (st := []) (kc' := 0) (ks' := 0) (ktX9_ownField r0 v1 v6 v3 v4 v5) mw_X9_ownField mv_X9_ownField w1235 (RO.mk rfl rfl rfl rfl) rfl rfl rfl dX9_fieldOf_39 ⟨rfl, rfl⟩ (fun x_39 => ?_)
      refine Z_istore (pc := 42) (lv' := [some (.ref r0), some (.int v1), some (.int v2), some (.int v3), some (.int v4), some (.int v5), some (.int v6), some (.int x_39), none]) dX9_fieldOf_42 rfl rfl rfl ?_
      refine S_iconst (pc := 44) (v := (nI 0)) dX9_fieldOf_44 kI_0 ?_
      refine Z_istore (pc := 45) (lv' := [some (.ref r0), some (.int v1), some (.int v2), some (.int v3), some (.int v4), some (.int v5), some (.int v6), some (.int x_39), some (.int (nI 0))]) dX9_fieldOf_45 rfl rfl rfl ?_
      exact (sX9_fieldOf_47 h3 fuel r0 v1 v2 v3 v4 v5 v6 x_39 (nI 0))
theorem sX9_fieldOf_3  : ∀ (n : Nat) (r0 : Nat) (v1 : Int32) (v2 : Int32) (v3 : Int32) (v4 : Int32) (v5 : Int32) (v6 : Int32), Sm mX9_fieldOf rI 0 0 3 [some (.ref r0), some (.int v1), some (.int v2), some (.int v3), some (.int v4), some (.int v5), some (.int v6), none, none] [] (lX9_fieldOf_3 n r0 v1 v2 v3 v4 v5 v6)
  | 0, _, _, _, _, _, _, _ => S_none
  | n + 1, r0, v1, v2, v3, v4, v5, v6 => sbX9_fieldOf_3 (sX9_fieldOf_3 n) r0 v1 v2 v3 v4 v5 v6
theorem sX9_fieldOf  (r0 : Nat) (v1 : Int32) (v2 : Int32) (v3 : Int32) (v4 : Int32) (v5 : Int32) : Sm mX9_fieldOf rI 0 0 0 [some (.ref r0), some (.int v1), some (.int v2), some (.int v3), some (.int v4), some (.int v5), none, none, none] [] (fX9_fieldOf r0 v1 v2 v3 v4 v5) := by
  unfold fX9_fieldOf
  refine S_iconst (pc := 0) (v := (nI 0)) dX9_fieldOf_0 kI_0 ?_
  refine Z_istore (pc := 1) (lv' := [some (.ref r0), some (.int v1), some (.int v2), some (.int v3), some (.int v4), some (.int v5), some (.int (nI 0)), none, none]) dX9_fieldOf_1 rfl rfl rfl ?_
  exact (sX9_fieldOf_3 fuel r0 v1 v2 v3 v4 v5 (nI 0))
theorem ktX9_fieldOf (r0 : Nat) (v1 : Int32) (v2 : Int32) (v3 : Int32) (v4 : Int32) (v5 : Int32) : Ct mX9_fieldOf rI [.ref r0, .int v1, .int v2, .int v3, .int v4, .int v5] (fX9_fieldOf r0 v1 v2 v3 v4 v5) := Ct.of (z := 3) pn_X9 rfl rfl rfl (sX9_fieldOf r0 v1 v2 v3 v4 v5)
def mX9_supertypes : MI := (yX9_supertypes, cX9_supertypes, 5, (some .int), { frames := 2, cells := 0, slots := 0, locals := 44 }, [])
theorem mw_X9_supertypes : MW mX9_supertypes 2 := ⟨w1261, w11, ⟨by decide, by decide⟩, by decide +kernel⟩
theorem mv_X9_supertypes : MV mX9_supertypes 9 := ⟨_, rfl, w1260, wp51⟩
def fX9_supertypes_45 (k9 : Nat → Int32 → Int32 → Int32 → AH → Option (Int32 × AH)) (r0 : Nat) (v1 : Int32) (v3 : Int32) (v4 : Int32) : AH → Option (Int32 × AH) := fun h =>
  k9 r0 v1 v3 (v4 + (-1 : Int32)) h
def bX9_supertypes_9  (k9 : Nat → Int32 → Int32 → Int32 → AH → Option (Int32 × AH)) (r0 : Nat) (v1 : Int32) (v3 : Int32) (v4 : Int32) : AH → Option (Int32 × AH) := fun h =>
  if v4 ≤ 0 then (
    some (v3, h))
  else
  bd (fX9_has v3 v4 h) fun x_7 h =>
  if x_7 = 0 then (
    fX9_supertypes_45 k9 r0 v1 v3 v4 h)
  else
  cv 9 r0 (fX9_of r0 v1 v4 (nI 3)) h fun x_8 h =>
  cv 9 r0 (fX9_of r0 v1 v4 (nI 2)) h fun x_9 h =>
  fX9_supertypes_45 k9 r0 v1 (v3 ||| (x_8 ||| ((nI 1) <<< (x_9 &&& 31)))) v4 h
def lX9_supertypes_9  : Nat → Nat → Int32 → Int32 → Int32 → AH → Option (Int32 × AH)
  | 0 => fun _ _ _ _ _ => none
  | n + 1 => bX9_supertypes_9 (lX9_supertypes_9 n)
def fX9_supertypes  (r0 : Nat) (v1 : Int32) (v2 : Int32) : AH → Option (Int32 × AH) := fun h =>
  lX9_supertypes_9 fuel r0 v1 (((nI 1) <<< (v2 &&& 31)) ||| (nI 1)) v2 h
theorem sX9_supertypes_45 {k9 : Nat → Int32 → Int32 → Int32 → AH → Option (Int32 × AH)} (h9 : ∀ (r0 : Nat) (v1 : Int32) (v3 : Int32) (v4 : Int32), Sm mX9_supertypes rI 0 0 9 [some (.ref r0), some (.int v1), none, some (.int v3), some (.int v4)] [] (k9 r0 v1 v3 v4)) (r0 : Nat) (v1 : Int32) (v3 : Int32) (v4 : Int32) : Sm mX9_supertypes rI 0 0 45 [some (.ref r0), some (.int v1), none, some (.int v3), some (.int v4)] [] (fX9_supertypes_45 k9 r0 v1 v3 v4) := by
  unfold fX9_supertypes_45
  refine Z_iinc (pc := 45) (v := (-1 : Int32)) (lv' := [some (.ref r0), some (.int v1), none, some (.int v3), some (.int (v4 + (-1 : Int32)))]) dX9_supertypes_45 rfl kI_m1 rfl rfl rfl ?_
  refine S_goto (pc := 48) (tgt := 9) dX9_supertypes_48 (by decide) ?_
  exact (h9 r0 v1 v3 (v4 + (-1 : Int32)))
theorem sbX9_supertypes_9  {k9 : Nat → Int32 → Int32 → Int32 → AH → Option (Int32 × AH)} (h9 : ∀ (r0 : Nat) (v1 : Int32) (v3 : Int32) (v4 : Int32), Sm mX9_supertypes rI 0 0 9 [some (.ref r0), some (.int v1), none, some (.int v3), some (.int v4)] [] (k9 r0 v1 v3 v4)) (r0 : Nat) (v1 : Int32) (v3 : Int32) (v4 : Int32) : Sm mX9_supertypes rI 0 0 9 [some (.ref r0), some (.int v1), none, some (.int v3), some (.int v4)] [] (bX9_supertypes_9 k9 r0 v1 v3 v4) := by
  unfold bX9_supertypes_9
  refine S_iload (pc := 9) dX9_supertypes_9 rfl ?_
  refine S_ifle (pc := 11) (tgt := 51) dX9_supertypes_11 (by decide) ?_ ?_
  · refine S_iload_n (pc := 51) dX9_supertypes_51 rfl ?_
    exact S_iret (pc := 52) ⟨rfl, rfl⟩ rfl rfl dX9_supertypes_52
  · refine S_iload_n (pc := 14) dX9_supertypes_14 rfl ?_
    refine S_iload (pc := 15) dX9_supertypes_15 rfl ?_
    refine Y_Ti (pc := 17) (st := []) (kc' := 0) (ks' := 0) (ktX9_has v3 v4) mw_X9_has w1252 w1251 (RO.mk rfl rfl rfl rfl) rfl rfl rfl dX9_supertypes_17 ⟨rfl, rfl⟩ (fun x_7 => ?_)
    refine S_ifeq (pc := 20) (tgt := 45) dX9_supertypes_20 (by decide) ?_ ?_
    · exact (sX9_supertypes_45 h9 r0 v1 v3 v4)
    · refine S_iload_n (pc := 23) dX9_supertypes_23 rfl ?_
      refine S_aload_n (pc := 24) dX9_supertypes_24 rfl ?_
      refine S_iload_n (pc := 25) dX9_supertypes_25 rfl ?_
      refine S_iload (pc := 26) dX9_supertypes_26 rfl ?_
      refine S_iconst (pc := 28) (v := (nI 3)) dX9_supertypes_28 kI_3 ?_
      refine Y_Vi (pc := 29) (st := [.int v3]) (kc' := 0) (ks' := 0) (ktX9_of r0 v1 v4 (nI 3)) mw_X9_of mv_X9_of w1219 (RO.mk rfl rfl rfl rfl) rfl rfl rfl dX9_supertypes_29 ⟨rfl, rfl⟩ (fun x_8 => ?_)
      refine S_iconst (pc := 32) (v := (nI 1)) dX9_supertypes_32 kI_1 ?_
      refine S_aload_n (pc := 33) dX9_supertypes_33 rfl ?_
      refine S_iload_n (pc := 34) dX9_supertypes_34 rfl ?_
      refine S_iload (pc := 35) dX9_supertypes_35 rfl ?_
      refine S_iconst (pc := 37) (v := (nI 2)) dX9_supertypes_37 kI_2 ?_
      refine Y_Vi (pc := 38) (st := [.int (nI 1), .int x_8, .int v3]) (kc' := 0) (ks' := 0) (ktX9_of r0 v1 v4 (nI 2)) mw_X9_of mv_X9_of w1219 (RO.mk rfl rfl rfl rfl) rfl rfl rfl dX9_supertypes_38 ⟨rfl, rfl⟩ (fun x_9 => ?_)
      refine S_ishl (pc := 41) dX9_supertypes_41 ?_
      refine S_ior (pc := 42) dX9_supertypes_42 ?_
      refine S_ior (pc := 43) dX9_supertypes_43 ?_
      refine Z_istore_n (pc := 44) (lv' := [some (.ref r0), some (.int v1), none, some (.int (v3 ||| (x_8 ||| ((nI 1) <<< (x_9 &&& 31))))), some (.int v4)]) dX9_supertypes_44 rfl rfl rfl ?_
      exact (sX9_supertypes_45 h9 r0 v1 (v3 ||| (x_8 ||| ((nI 1) <<< (x_9 &&& 31)))) v4)
theorem sX9_supertypes_9  : ∀ (n : Nat) (r0 : Nat) (v1 : Int32) (v3 : Int32) (v4 : Int32), Sm mX9_supertypes rI 0 0 9 [some (.ref r0), some (.int v1), none, some (.int v3), some (.int v4)] [] (lX9_supertypes_9 n r0 v1 v3 v4)
  | 0, _, _, _, _ => S_none
  | n + 1, r0, v1, v3, v4 => sbX9_supertypes_9 (sX9_supertypes_9 n) r0 v1 v3 v4
theorem sX9_supertypes  (r0 : Nat) (v1 : Int32) (v2 : Int32) : Sm mX9_supertypes rI 0 0 0 [some (.ref r0), some (.int v1), some (.int v2), none, none] [] (fX9_supertypes r0 v1 v2) := by
  unfold fX9_supertypes
  refine S_iconst (pc := 0) (v := (nI 1)) dX9_supertypes_0 kI_1 ?_
  refine S_iload_n (pc := 1) dX9_supertypes_1 rfl ?_
  refine S_ishl (pc := 2) dX9_supertypes_2 ?_
  refine S_iconst (pc := 3) (v := (nI 1)) dX9_supertypes_3 kI_1 ?_
  refine S_ior (pc := 4) dX9_supertypes_4 ?_
  refine Z_istore_n (pc := 5) (lv' := [some (.ref r0), some (.int v1), some (.int v2), some (.int (((nI 1) <<< (v2 &&& 31)) ||| (nI 1))), none]) dX9_supertypes_5 rfl rfl rfl ?_
  refine S_iload_n (pc := 6) dX9_supertypes_6 rfl ?_
  refine Z_istore (pc := 7) (lv' := [some (.ref r0), some (.int v1), some (.int v2), some (.int (((nI 1) <<< (v2 &&& 31)) ||| (nI 1))), some (.int v2)]) dX9_supertypes_7 rfl rfl rfl ?_
  exact (S_lv (lv0 := [some (.ref r0), some (.int v1), none, some (.int (((nI 1) <<< (v2 &&& 31)) ||| (nI 1))), some (.int v2)]) (And.intro rfl (And.intro rfl (And.intro rfl (And.intro rfl trivial)))) (sX9_supertypes_9 fuel r0 v1 (((nI 1) <<< (v2 &&& 31)) ||| (nI 1)) v2))
theorem ktX9_supertypes (r0 : Nat) (v1 : Int32) (v2 : Int32) : Ct mX9_supertypes rI [.ref r0, .int v1, .int v2] (fX9_supertypes r0 v1 v2) := Ct.of (z := 2) pn_X9 rfl rfl rfl (sX9_supertypes r0 v1 v2)
def mX9_isOpen : MI := (yX9_isOpen, cX9_isOpen, 6, (some .boolean), { frames := 3, cells := 0, slots := 0, locals := 68 }, [])
theorem mw_X9_isOpen : MW mX9_isOpen 2 := ⟨w1257, w11, ⟨by decide, by decide⟩, by decide +kernel⟩
theorem mv_X9_isOpen : MV mX9_isOpen 9 := ⟨_, rfl, w1256, wp50⟩
def fX9_isOpen_43  (r0 : Nat) (v1 : Int32) (v3 : Int32) (v4 : Int32) (s0 : Int32) : AH → Option (Int32 × AH) := fun h =>
  if v4 = (nI 3) then (
    rz (nI 1) (nI 1) h)
  else
  if s0 = 0 then (
    if v4 = (nI 2) then (
      (gP 9 r0 15 h).bind fun a_25 =>
      (ldI a_25 (nI 4) h).bind fun x_26 =>
      cv 9 r0 (fX9_isClass r0 v1 x_26) h fun x_27 h =>
      if x_27 = 0 then (
        rz (nI 0) (nI 0) h)
      else
      (gP 9 r0 15 h).bind fun a_28 =>
      (ldI a_28 (nI 4) h).bind fun x_29 =>
      cv 9 r0 (fX9_supertypes r0 v1 x_29) h fun x_30 h =>
      bd (fX9_has x_30 v3 h) fun x_31 h =>
      if x_31 = 0 then (
        rz (nI 0) (nI 0) h)
      else
      rz (nI 1) (nI 1) h)
    else
    rz (nI 0) (nI 0) h)
  else
  rz (nI 1) (nI 1) h
def fX9_isOpen_42  (r0 : Nat) (v1 : Int32) (v3 : Int32) (v4 : Int32) : AH → Option (Int32 × AH) := fun h =>
  fX9_isOpen_43 r0 v1 v3 v4 (nI 0) h
def fX9_isOpen  (r0 : Nat) (v1 : Int32) (v2 : Int32) : AH → Option (Int32 × AH) := fun h =>
  cv 9 r0 (fX9_its r0 v1 v2 (nI 1)) h fun x_32 h =>
  cv 9 r0 (fX9_its r0 v1 v2 (nI 3)) h fun x_33 h =>
  if x_33 ≤ 0 then (
    fX9_isOpen_42 r0 v1 x_32 x_33 h)
  else
  cv 9 r0 (fX9_of r0 v1 x_32 (nI 4)) h fun x_34 h =>
  (gP 9 r0 15 h).bind fun a_35 =>
  (ldI a_35 (nI 3) h).bind fun x_36 =>
  if x_34 = x_36 then (
    fX9_isOpen_43 r0 v1 x_32 x_33 (nI 1) h)
  else
  fX9_isOpen_42 r0 v1 x_32 x_33 h
theorem sX9_isOpen_43  (r0 : Nat) (v1 : Int32) (v3 : Int32) (v4 : Int32) (s0 : Int32) : Sm mX9_isOpen rI 0 0 43 [some (.ref r0), some (.int v1), none, some (.int v3), some (.int v4), none] [.int s0] (fX9_isOpen_43 r0 v1 v3 v4 s0) := by
  unfold fX9_isOpen_43
  refine Z_istore (pc := 43) (lv' := [some (.ref r0), some (.int v1), none, some (.int v3), some (.int v4), some (.int s0)]) dX9_isOpen_43 rfl rfl rfl ?_
  refine S_iload (pc := 45) dX9_isOpen_45 rfl ?_
  refine S_iconst (pc := 47) (v := (nI 3)) dX9_isOpen_47 kI_3 ?_
  refine S_icmpeq (pc := 48) (tgt := 94) dX9_isOpen_48 (by decide) ?_ ?_
  · refine S_iconst (pc := 94) (v := (nI 1)) dX9_isOpen_94 kI_1 ?_
    refine S_goto (pc := 95) (tgt := 99) dX9_isOpen_95 (by decide) ?_
    exact S_zret (pc := 99) ⟨rfl, rfl⟩ rfl rfl dX9_isOpen_99
  · refine S_iload (pc := 51) dX9_isOpen_51 rfl ?_
    refine S_ifne (pc := 53) (tgt := 94) dX9_isOpen_53 (by decide) ?_ ?_
    · refine S_iconst (pc := 94) (v := (nI 1)) dX9_isOpen_94 kI_1 ?_
      refine S_goto (pc := 95) (tgt := 99) dX9_isOpen_95 (by decide) ?_
      exact S_zret (pc := 99) ⟨rfl, rfl⟩ rfl rfl dX9_isOpen_99
    · refine S_iload (pc := 56) dX9_isOpen_56 rfl ?_
      refine S_iconst (pc := 58) (v := (nI 2)) dX9_isOpen_58 kI_2 ?_
      refine S_icmpne (pc := 59) (tgt := 98) dX9_isOpen_59 (by decide) ?_ ?_
      · refine S_iconst (pc := 98) (v := (nI 0)) dX9_isOpen_98 kI_0 ?_
        exact S_zret (pc := 99) ⟨rfl, rfl⟩ rfl rfl dX9_isOpen_99
      · refine S_aload_n (pc := 62) dX9_isOpen_62 rfl ?_
        refine S_iload_n (pc := 63) dX9_isOpen_63 rfl ?_
        refine S_aload_n (pc := 64) dX9_isOpen_64 rfl ?_
        refine S_gP (pc := 65) fl_X9_22 rfl dX9_isOpen_65 (fun a_25 => ?_)
        refine S_iconst (pc := 68) (v := (nI 4)) dX9_isOpen_68 kI_4 ?_
        refine S_ldI (pc := 69) dX9_isOpen_69 (fun x_26 => ?_)
        refine Y_Vi (pc := 70) (st := []) (kc' := 0) (ks' := 0) (ktX9_isClass r0 v1 x_26) mw_X9_isClass mv_X9_isClass w1209 (RO.mk rfl rfl rfl rfl) rfl rfl rfl dX9_isOpen_70 ⟨rfl, rfl⟩ (fun x_27 => ?_)
        refine S_ifeq (pc := 73) (tgt := 98) dX9_isOpen_73 (by decide) ?_ ?_
        · refine S_iconst (pc := 98) (v := (nI 0)) dX9_isOpen_98 kI_0 ?_
          exact S_zret (pc := 99) ⟨rfl, rfl⟩ rfl rfl dX9_isOpen_99
        · refine S_aload_n (pc := 76) dX9_isOpen_76 rfl ?_
          refine S_iload_n (pc := 77) dX9_isOpen_77 rfl ?_
          refine S_aload_n (pc := 78) dX9_isOpen_78 rfl ?_
          refine S_gP (pc := 79) fl_X9_22 rfl dX9_isOpen_79 (fun a_28 => ?_)
          refine S_iconst (pc := 82) (v := (nI 4)) dX9_isOpen_82 kI_4 ?_
          refine S_ldI (pc := 83) dX9_isOpen_83 (fun x_29 => ?_)
          refine Y_Vi (pc := 84) (st := []) (kc' := 0) (ks' := 0) (ktX9_supertypes r0 v1 x_29) mw_X9_supertypes mv_X9_supertypes w1258 (RO.mk rfl rfl rfl rfl) rfl rfl rfl dX9_isOpen_84 ⟨rfl, rfl⟩ (fun x_30 => ?_)
          refine S_iload_n (pc := 87) dX9_isOpen_87 rfl ?_
          refine Y_Ti (pc := 88) (st := []) (kc' := 0) (ks' := 0) (ktX9_has x_30 v3) mw_X9_has w1252 w1251 (RO.mk rfl rfl rfl rfl) rfl rfl rfl dX9_isOpen_88 ⟨rfl, rfl⟩ (fun x_31 => ?_)
          refine S_ifeq (pc := 91) (tgt := 98) dX9_isOpen_91 (by decide) ?_ ?_
          · refine S_iconst (pc := 98) (v := (nI 0)) dX9_isOpen_98 kI_0 ?_
            exact S_zret (pc := 99) ⟨rfl, rfl⟩ rfl rfl dX9_isOpen_99
          · refine S_iconst (pc := 94) (v := (nI 1)) dX9_isOpen_94 kI_1 ?_
            refine S_goto (pc := 95) (tgt := 99) dX9_isOpen_95 (by decide) ?_
            exact S_zret (pc := 99) ⟨rfl, rfl⟩ rfl rfl dX9_isOpen_99
theorem sX9_isOpen_42  (r0 : Nat) (v1 : Int32) (v3 : Int32) (v4 : Int32) : Sm mX9_isOpen rI 0 0 42 [some (.ref r0), some (.int v1), none, some (.int v3), some (.int v4), none] [] (fX9_isOpen_42 r0 v1 v3 v4) := by
  unfold fX9_isOpen_42
  refine S_iconst (pc := 42) (v := (nI 0)) dX9_isOpen_42 kI_0 ?_
  exact (sX9_isOpen_43 r0 v1 v3 v4 (nI 0))
theorem sX9_isOpen  (r0 : Nat) (v1 : Int32) (v2 : Int32) : Sm mX9_isOpen rI 0 0 0 [some (.ref r0), some (.int v1), some (.int v2), none, none, none] [] (fX9_isOpen r0 v1 v2) := by
  unfold fX9_isOpen
  refine S_aload_n (pc := 0) dX9_isOpen_0 rfl ?_
  refine S_iload_n (pc := 1) dX9_isOpen_1 rfl ?_
  refine S_iload_n (pc := 2) dX9_isOpen_2 rfl ?_
  refine S_iconst (pc := 3) (v := (nI 1)) dX9_isOpen_3 kI_1 ?_
  refine Y_Vi (pc := 4) (st := []) (kc' := 0) (ks' := 0) (ktX9_its r0 v1 v2 (nI 1)) mw_X9_its mv_X9_its w1243 (RO.mk rfl rfl rfl rfl) rfl rfl rfl dX9_isOpen_4 ⟨rfl, rfl⟩ (fun x_32 => ?_)
  refine Z_istore_n (pc := 7) (lv' := [some (.ref r0), some (.int v1), some (.int v2), some (.int x_32), none, none]) dX9_isOpen_7 rfl rfl rfl ?_
  refine S_aload_n (pc := 8) dX9_isOpen_8 rfl ?_
  refine S_iload_n (pc := 9) dX9_isOpen_9 rfl ?_
  refine S_iload_n (pc := 10) dX9_isOpen_10 rfl ?_
  refine S_iconst (pc := 11) (v := (nI 3)) dX9_isOpen_11 kI_3 ?_
  refine Y_Vi (pc := 12) (st := []) (kc' := 0) (ks' := 0) (ktX9_its r0 v1 v2 (nI 3)) mw_X9_its mv_X9_its w1243 (RO.mk rfl rfl rfl rfl) rfl rfl rfl dX9_isOpen_12 ⟨rfl, rfl⟩ (fun x_33 => ?_)
  refine Z_istore (pc := 15) (lv' := [some (.ref r0), some (.int v1), some (.int v2), some (.int x_32), some (.int x_33), none]) dX9_isOpen_15 rfl rfl rfl ?_
  refine S_iload (pc := 17) dX9_isOpen_17 rfl ?_
  refine S_ifle (pc := 19) (tgt := 42) dX9_isOpen_19 (by decide) ?_ ?_
  · exact (S_lv (lv0 := [some (.ref r0), some (.int v1), none, some (.int x_32), some (.int x_33), none]) (And.intro rfl (And.intro rfl (And.intro rfl (And.intro rfl trivial)))) (sX9_isOpen_42 r0 v1 x_32 x_33))
  · refine S_aload_n (pc := 22) dX9_isOpen_22 rfl ?_
    refine S_iload_n (pc := 23) dX9_isOpen_23 rfl ?_
    refine S_iload_n (pc := 24) dX9_isOpen_24 rfl ?_
    refine S_iconst (pc := 25) (v := (nI 4)) dX9_isOpen_25 kI_4 ?_
    refine Y_Vi (pc := 26) (st := []) (kc' := 0) (ks' := 0) (ktX9_of r0 v1 x_32 (nI 4)) mw_X9_of mv_X9_of w1219 (RO.mk rfl rfl rfl rfl) rfl rfl rfl dX9_isOpen_26 ⟨rfl, rfl⟩ (fun x_34 => ?_)
    refine S_aload_n (pc := 29) dX9_isOpen_29 rfl ?_
    refine S_gP (pc := 30) fl_X9_22 rfl dX9_isOpen_30 (fun a_35 => ?_)
    refine S_iconst (pc := 33) (v := (nI 3)) dX9_isOpen_33 kI_3 ?_
    refine S_ldI (pc := 34) dX9_isOpen_34 (fun x_36 => ?_)
    refine S_icmpne (pc := 35) (tgt := 42) dX9_isOpen_35 (by decide) ?_ ?_
    · exact (S_lv (lv0 := [some (.ref r0), some (.int v1), none, some (.int x_32), some (.int x_33), none]) (And.intro rfl (And.intro rfl (And.intro rfl (And.intro rfl trivial)))) (sX9_isOpen_42 r0 v1 x_32 x_33))
    · refine S_iconst (pc := 38) (v := (nI 1)) dX9_isOpen_38 kI_1 ?_
      refine S_goto (pc := 39) (tgt := 43) dX9_isOpen_39 (by decide) ?_
      exact (S_lv (lv0 := [some (.ref r0), some (.int v1), none, some (.int x_32), some (.int x_33), none]) (And.intro rfl (And.intro rfl (And.intro rfl (And.intro rfl trivial)))) (sX9_isOpen_43 r0 v1 x_32 x_33 (nI 1)))
theorem ktX9_isOpen (r0 : Nat) (v1 : Int32) (v2 : Int32) : Ct mX9_isOpen rI [.ref r0, .int v1, .int v2] (fX9_isOpen r0 v1 v2) := Ct.of (z := 3) pn_X9 rfl rfl rfl (sX9_isOpen r0 v1 v2)
def mX9_isFinal : MI := (yX9_isFinal, cX9_isFinal, 3, (some .boolean), { frames := 2, cells := 0, slots := 0, locals := 44 }, [])
theorem mw_X9_isFinal : MW mX9_isFinal 2 := ⟨w1265, w11, ⟨by decide, by decide⟩, by decide +kernel⟩
theorem mv_X9_isFinal : MV mX9_isFinal 9 := ⟨_, rfl, w1264, wp52⟩
def fX9_isFinal  (r0 : Nat) (v1 : Int32) (v2 : Int32) : AH → Option (Int32 × AH) := fun h =>
  cv 9 r0 (fX9_its r0 v1 v2 (nI 4)) h fun x_3 h =>
  bd (fX9_has x_3 (nI 1) h) fun x_4 h =>
  rz x_4 x_4 h
theorem sX9_isFinal  (r0 : Nat) (v1 : Int32) (v2 : Int32) : Sm mX9_isFinal rI 0 0 0 [some (.ref r0), some (.int v1), some (.int v2)] [] (fX9_isFinal r0 v1 v2) := by
  unfold fX9_isFinal
  refine S_aload_n (pc := 0) dX9_isFinal_0 rfl ?_
  refine S_iload_n (pc := 1) dX9_isFinal_1 rfl ?_
  refine S_iload_n (pc := 2) dX9_isFinal_2 rfl ?_
  refine S_iconst (pc := 3) (v := (nI 4)) dX9_isFinal_3 kI_4 ?_
  refine Y_Vi (pc := 4) (st := []) (kc' := 0) (ks' := 0) (ktX9_its r0 v1 v2 (nI 4)) mw_X9_its mv_X9_its w1243 (RO.mk rfl rfl rfl rfl) rfl rfl rfl dX9_isFinal_4 ⟨rfl, rfl⟩ (fun x_3 => ?_)
  refine S_iconst (pc := 7) (v := (nI 1)) dX9_isFinal_7 kI_1 ?_
  refine Y_Ti (pc := 8) (st := []) (kc' := 0) (ks' := 0) (ktX9_has x_3 (nI 1)) mw_X9_has w1252 w1251 (RO.mk rfl rfl rfl rfl) rfl rfl rfl dX9_isFinal_8 ⟨rfl, rfl⟩ (fun x_4 => ?_)
  exact S_zret (pc := 11) ⟨rfl, rfl⟩ rfl rfl dX9_isFinal_11
theorem ktX9_isFinal (r0 : Nat) (v1 : Int32) (v2 : Int32) : Ct mX9_isFinal rI [.ref r0, .int v1, .int v2] (fX9_isFinal r0 v1 v2) := Ct.of (z := 0) pn_X9 rfl rfl rfl (sX9_isFinal r0 v1 v2)
def mX9_isStatic : MI := (yX9_isStatic, cX9_isStatic, 3, (some .boolean), { frames := 2, cells := 0, slots := 0, locals := 44 }, [])
theorem mw_X9_isStatic : MW mX9_isStatic 2 := ⟨w1269, w11, ⟨by decide, by decide⟩, by decide +kernel⟩
theorem mv_X9_isStatic : MV mX9_isStatic 9 := ⟨_, rfl, w1268, wp53⟩
def fX9_isStatic  (r0 : Nat) (v1 : Int32) (v2 : Int32) : AH → Option (Int32 × AH) := fun h =>
  cv 9 r0 (fX9_its r0 v1 v2 (nI 4)) h fun x_3 h =>
  bd (fX9_has x_3 (nI 0) h) fun x_4 h =>
  rz x_4 x_4 h
theorem sX9_isStatic  (r0 : Nat) (v1 : Int32) (v2 : Int32) : Sm mX9_isStatic rI 0 0 0 [some (.ref r0), some (.int v1), some (.int v2)] [] (fX9_isStatic r0 v1 v2) := by
  unfold fX9_isStatic
  refine S_aload_n (pc := 0) dX9_isStatic_0 rfl ?_
  refine S_iload_n (pc := 1) dX9_isStatic_1 rfl ?_
  refine S_iload_n (pc := 2) dX9_isStatic_2 rfl ?_
  refine S_iconst (pc := 3) (v := (nI 4)) dX9_isStatic_3 kI_4 ?_
  refine Y_Vi (pc := 4) (st := []) (kc' := 0) (ks' := 0) (ktX9_its r0 v1 v2 (nI 4)) mw_X9_its mv_X9_its w1243 (RO.mk rfl rfl rfl rfl) rfl rfl rfl dX9_isStatic_4 ⟨rfl, rfl⟩ (fun x_3 => ?_)
  refine S_iconst (pc := 7) (v := (nI 0)) dX9_isStatic_7 kI_0 ?_
  refine Y_Ti (pc := 8) (st := []) (kc' := 0) (ks' := 0) (ktX9_has x_3 (nI 0)) mw_X9_has w1252 w1251 (RO.mk rfl rfl rfl rfl) rfl rfl rfl dX9_isStatic_8 ⟨rfl, rfl⟩ (fun x_4 => ?_)
  exact S_zret (pc := 11) ⟨rfl, rfl⟩ rfl rfl dX9_isStatic_11
theorem ktX9_isStatic (r0 : Nat) (v1 : Int32) (v2 : Int32) : Ct mX9_isStatic rI [.ref r0, .int v1, .int v2] (fX9_isStatic r0 v1 v2) := Ct.of (z := 0) pn_X9 rfl rfl rfl (sX9_isStatic r0 v1 v2)
def mX9_compiledField : MI := (yX9_compiledField, cX9_compiledField, 4, (some .int), { frames := 6, cells := 0, slots := 0, locals := 152 }, [])
theorem mw_X9_compiledField : MW mX9_compiledField 2 := ⟨w1230, w11, ⟨by decide, by decide⟩, by decide +kernel⟩
theorem mv_X9_compiledField : MV mX9_compiledField 9 := ⟨_, rfl, w1229, wp44⟩
def fX9_compiledField_133  (s0 : Nat) (s1 : Int32) (s2 : Int32) : AH → Option (Int32 × AH) := fun h =>
  (stI s0 s1 s2 h).bind fun h =>
  some ((nI 0), h)
def fX9_compiledField_101  (r0 : Nat) (v1 : Int32) (v3 : Int32) : AH → Option (Int32 × AH) := fun h =>
  (gP 9 r0 16 h).bind fun a_35 =>
  cv 9 r0 (fX9_its r0 v1 v3 (nI 5)) h fun x_36 h =>
  (stI a_35 (nI 2) x_36 h).bind fun h =>
  (gP 9 r0 16 h).bind fun a_37 =>
  cv 9 r0 (fX9_isStatic r0 v1 v3) h fun x_38 h =>
  if x_38 = 0 then (
    fX9_compiledField_133 a_37 (nI 3) (nI 0) h)
  else
  fX9_compiledField_133 a_37 (nI 3) (nI 1) h
def fX9_compiledField_56  (r0 : Nat) (v1 : Int32) (v3 : Int32) : AH → Option (Int32 × AH) := fun h =>
  (gP 9 r0 15 h).bind fun a_39 =>
  (ldI a_39 (nI 0) h).bind fun x_40 =>
  if x_40 = 0 then (
    cv 9 r0 (fX9_its r0 v1 v3 (nI 9)) h fun x_41 h =>
    if x_41 = (-2 : Int32) then (
      fX9_compiledField_101 r0 v1 v3 h)
    else
    (gP 9 r0 16 h).bind fun a_42 =>
    (stI a_42 (nI 0) (nI 1) h).bind fun h =>
    (gP 9 r0 16 h).bind fun a_43 =>
    cv 9 r0 (fX9_its r0 v1 v3 (nI 9)) h fun x_44 h =>
    (stI a_43 (nI 1) x_44 h).bind fun h =>
    some ((nI 0), h))
  else
  fX9_compiledField_101 r0 v1 v3 h
def fX9_compiledField  (r0 : Nat) (v1 : Int32) (v2 : Int32) : AH → Option (Int32 × AH) := fun h =>
  (gP 9 r0 15 h).bind fun a_45 =>
  (ldI a_45 (nI 2) h).bind fun x_46 =>
  cv 9 r0 (fX9_fieldOf r0 v1 v2 x_46 (nI 1) (nI 0)) h fun x_47 h =>
  if x_47 = (-2 : Int32) then (
    some ((nI 3), h))
  else
  cv 9 r0 (fX9_isOpen r0 v1 x_47) h fun x_48 h =>
  if x_48 = 0 then (
    some ((nI 5), h))
  else
  (gP 9 r0 15 h).bind fun a_49 =>
  (ldI a_49 (nI 0) h).bind fun x_50 =>
  if x_50 = (nI 1) then (
    cv 9 r0 (fX9_isFinal r0 v1 x_47) h fun x_51 h =>
    if x_51 = 0 then (
      fX9_compiledField_56 r0 v1 x_47 h)
    else
    some ((nI 6), h))
  else
  fX9_compiledField_56 r0 v1 x_47 h
theorem sX9_compiledField_133  (s0 : Nat) (s1 : Int32) (s2 : Int32) : Sm mX9_compiledField rI 0 0 133 [none, none, none, none] [.int s2, .int s1, .ref s0] (fX9_compiledField_133 s0 s1 s2) := by
  unfold fX9_compiledField_133
  refine S_stI (pc := 133) dX9_compiledField_133 ?_
  refine S_iconst (pc := 134) (v := (nI 0)) dX9_compiledField_134 kI_0 ?_
  exact S_iret (pc := 135) ⟨rfl, rfl⟩ rfl rfl dX9_compiledField_135
theorem sX9_compiledField_101  (r0 : Nat) (v1 : Int32) (v3 : Int32) : Sm mX9_compiledField rI 0 0 101 [some (.ref r0), some (.int v1), none, some (.int v3)] [] (fX9_compiledField_101 r0 v1 v3) := by
  unfold fX9_compiledField_101
  refine S_aload_n (pc := 101) dX9_compiledField_101 rfl ?_
  refine S_gP (pc := 102) fl_X9_25 rfl dX9_compiledField_102 (fun a_35 => ?_)
  refine S_iconst (pc := 105) (v := (nI 2)) dX9_compiledField_105 kI_2 ?_
  refine S_aload_n (pc := 106) dX9_compiledField_106 rfl ?_
  refine S_iload_n (pc := 107) dX9_compiledField_107 rfl ?_
  refine S_iload_n (pc := 108) dX9_compiledField_108 rfl ?_
  refine S_iconst (pc := 109) (v := (nI 5)) dX9_compiledField_109 kI_5 ?_
  refine Y_Vi (pc := 110) (st := [.int (nI 2), .ref a_35]) (kc' := 0) (ks' := 0) (ktX9_its r0 v1 v3 (nI 5)) mw_X9_its mv_X9_its w1243 (RO.mk rfl rfl rfl rfl) rfl rfl rfl dX9_compiledField_110 ⟨rfl, rfl⟩ (fun x_36 => ?_)
  refine S_stI (pc := 113) dX9_compiledField_113 ?_
  refine S_aload_n (pc := 114) dX9_compiledField_114 rfl ?_
  refine S_gP (pc := 115) fl_X9_25 rfl dX9_compiledField_115 (fun a_37 => ?_)
  refine S_iconst (pc := 118) (v := (nI 3)) dX9_compiledField_118 kI_3 ?_
  refine S_aload_n (pc := 119) dX9_compiledField_119 rfl ?_
  refine S_iload_n (pc := 120) dX9_compiledField_120 rfl ?_
  refine S_iload_n (pc := 121) dX9_compiledField_121 rfl ?_
  refine Y_Vi (pc := 122) (st := [.int (nI 3), .ref a_37]) (kc' := 0) (ks' := 0) (ktX9_isStatic r0 v1 v3) mw_X9_isStatic mv_X9_isStatic w1266 (RO.mk rfl rfl rfl rfl) rfl rfl rfl dX9_compiledField_122 ⟨rfl, rfl⟩ (fun x_38 => ?_)
  refine S_ifeq (pc := 125) (tgt := 132) dX9_compiledField_125 (by decide) ?_ ?_
  · refine S_iconst (pc := 132) (v := (nI 0)) dX9_compiledField_132 kI_0 ?_
    exact (S_lv (lv0 := [none, none, none, none]) trivial (sX9_compiledField_133 a_37 (nI 3) (nI 0)))
  · refine S_iconst (pc := 128) (v := (nI 1)) dX9_compiledField_128 kI_1 ?_
    refine S_goto (pc := 129) (tgt := 133) dX9_compiledField_129 (by decide) ?_
    exact (S_lv (lv0 := [none, none, none, none]) trivial (sX9_compiledField_133 a_37 (nI 3) (nI 1)))
theorem sX9_compiledField_56  (r0 : Nat) (v1 : Int32) (v3 : Int32) : Sm mX9_compiledField rI 0 0 56 [some (.ref r0), some (.int v1), none, some (.int v3)] [] (fX9_compiledField_56 r0 v1 v3) := by
  unfold fX9_compiledField_56
  refine S_aload_n (pc := 56) dX9_compiledField_56 rfl ?_
  refine S_gP (pc := 57) fl_X9_22 rfl dX9_compiledField_57 (fun a_39 => ?_)
  refine S_iconst (pc := 60) (v := (nI 0)) dX9_compiledField_60 kI_0 ?_
  refine S_ldI (pc := 61) dX9_compiledField_61 (fun x_40 => ?_)
  refine S_ifne (pc := 62) (tgt := 101) dX9_compiledField_62 (by decide) ?_ ?_
  · exact (sX9_compiledField_101 r0 v1 v3)
  · refine S_aload_n (pc := 65) dX9_compiledField_65 rfl ?_
    refine S_iload_n (pc := 66) dX9_compiledField_66 rfl ?_
    refine S_iload_n (pc := 67) dX9_compiledField_67 rfl ?_
    refine S_bipush (pc := 68) (v := (nI 9)) dX9_compiledField_68 kB_9 ?_
    refine Y_Vi (pc := 70) (st := []) (kc' := 0) (ks' := 0) (ktX9_its r0 v1 v3 (nI 9)) mw_X9_its mv_X9_its w1243 (RO.mk rfl rfl rfl rfl) rfl rfl rfl dX9_compiledField_70 ⟨rfl, rfl⟩ (fun x_41 => ?_)
    refine S_bipush (pc := 73) (v := (-2 : Int32)) dX9_compiledField_73 kB_m2 ?_
    refine S_icmpeq (pc := 75) (tgt := 101) dX9_compiledField_75 (by decide) ?_ ?_
    · exact (sX9_compiledField_101 r0 v1 v3)
    · refine S_aload_n (pc := 78) dX9_compiledField_78 rfl ?_
      refine S_gP (pc := 79) fl_X9_25 rfl dX9_compiledField_79 (fun a_42 => ?_)
      refine S_iconst (pc := 82) (v := (nI 0)) dX9_compiledField_82 kI_0 ?_
      refine S_iconst (pc := 83) (v := (nI 1)) dX9_compiledField_83 kI_1 ?_
      refine S_stI (pc := 84) dX9_compiledField_84 ?_
      refine S_aload_n (pc := 85) dX9_compiledField_85 rfl ?_
      refine S_gP (pc := 86) fl_X9_25 rfl dX9_compiledField_86 (fun a_43 => ?_)
      refine S_iconst (pc := 89) (v := (nI 1)) dX9_compiledField_89 kI_1 ?_
      refine S_aload_n (pc := 90) dX9_compiledField_90 rfl ?_
      refine S_iload_n (pc := 91) dX9_compiledField_91 rfl ?_
      refine S_iload_n (pc := 92) dX9_compiledField_92 rfl ?_
      refine S_bipush (pc := 93) (v := (nI 9)) dX9_compiledField_93 kB_9 ?_
      refine Y_Vi (pc := 95) (st := [.int (nI 1), .ref a_43]) (kc' := 0) (ks' := 0) (ktX9_its r0 v1 v3 (nI 9)) mw_X9_its mv_X9_its w1243 (RO.mk rfl rfl rfl rfl) rfl rfl rfl dX9_compiledField_95 ⟨rfl, rfl⟩ (fun x_44 => ?_)
      refine S_stI (pc := 98) dX9_compiledField_98 ?_
      refine S_iconst (pc := 99) (v := (nI 0)) dX9_compiledField_99 kI_0 ?_
      exact S_iret (pc := 100) ⟨rfl, rfl⟩ rfl rfl dX9_compiledField_100
theorem sX9_compiledField  (r0 : Nat) (v1 : Int32) (v2 : Int32) : Sm mX9_compiledField rI 0 0 0 [some (.ref r0), some (.int v1), some (.int v2), none] [] (fX9_compiledField r0 v1 v2) := by
  unfold fX9_compiledField
  refine S_aload_n (pc := 0) dX9_compiledField_0 rfl ?_
  refine S_iload_n (pc := 1) dX9_compiledField_1 rfl ?_
  refine S_iload_n (pc := 2) dX9_compiledField_2 rfl ?_
  refine S_aload_n (pc := 3) dX9_compiledField_3 rfl ?_
  refine S_gP (pc := 4) fl_X9_22 rfl dX9_compiledField_4 (fun a_45 => ?_)
  refine S_iconst (pc := 7) (v := (nI 2)) dX9_compiledField_7 kI_2 ?_
  refine S_ldI (pc := 8) dX9_compiledField_8 (fun x_46 => ?_)
  refine S_iconst (pc := 9) (v := (nI 1)) dX9_compiledField_9 kI_1 ?_
  refine S_iconst (pc := 10) (v := (nI 0)) dX9_compiledField_10 kI_0 ?_
  refine Y_Vi (pc := 11) (st := []) (kc' := 0) (ks' := 0) (ktX9_fieldOf r0 v1 v2 x_46 (nI 1) (nI 0)) mw_X9_fieldOf mv_X9_fieldOf w1231 (RO.mk rfl rfl rfl rfl) rfl rfl rfl dX9_compiledField_11 ⟨rfl, rfl⟩ (fun x_47 => ?_)
  refine Z_istore_n (pc := 14) (lv' := [some (.ref r0), some (.int v1), some (.int v2), some (.int x_47)]) dX9_compiledField_14 rfl rfl rfl ?_
  refine S_iload_n (pc := 15) dX9_compiledField_15 rfl ?_
  refine S_bipush (pc := 16) (v := (-2 : Int32)) dX9_compiledField_16 kB_m2 ?_
  refine S_icmpne (pc := 18) (tgt := 23) dX9_compiledField_18 (by decide) ?_ ?_
  · refine S_aload_n (pc := 23) dX9_compiledField_23 rfl ?_
    refine S_iload_n (pc := 24) dX9_compiledField_24 rfl ?_
    refine S_iload_n (pc := 25) dX9_compiledField_25 rfl ?_
    refine Y_Vi (pc := 26) (st := []) (kc' := 0) (ks' := 0) (ktX9_isOpen r0 v1 x_47) mw_X9_isOpen mv_X9_isOpen w1254 (RO.mk rfl rfl rfl rfl) rfl rfl rfl dX9_compiledField_26 ⟨rfl, rfl⟩ (fun x_48 => ?_)
    refine S_ifne (pc := 29) (tgt := 34) dX9_compiledField_29 (by decide) ?_ ?_
    · refine S_aload_n (pc := 34) dX9_compiledField_34 rfl ?_
      refine S_gP (pc := 35) fl_X9_22 rfl dX9_compiledField_35 (fun a_49 => ?_)
      refine S_iconst (pc := 38) (v := (nI 0)) dX9_compiledField_38 kI_0 ?_
      refine S_ldI (pc := 39) dX9_compiledField_39 (fun x_50 => ?_)
      refine S_iconst (pc := 40) (v := (nI 1)) dX9_compiledField_40 kI_1 ?_
      refine S_icmpne (pc := 41) (tgt := 56) dX9_compiledField_41 (by decide) ?_ ?_
      · exact (S_lv (lv0 := [some (.ref r0), some (.int v1), none, some (.int x_47)]) (And.intro rfl (And.intro rfl (And.intro rfl trivial))) (sX9_compiledField_56 r0 v1 x_47))
      · refine S_aload_n (pc := 44) dX9_compiledField_44 rfl ?_
        refine S_iload_n (pc := 45) dX9_compiledField_45 rfl ?_
        refine S_iload_n (pc := 46) dX9_compiledField_46 rfl ?_
        refine Y_Vi (pc := 47) (st := []) (kc' := 0) (ks' := 0) (ktX9_isFinal r0 v1 x_47) mw_X9_isFinal mv_X9_isFinal w1262 (RO.mk rfl rfl rfl rfl) rfl rfl rfl dX9_compiledField_47 ⟨rfl, rfl⟩ (fun x_51 => ?_)
        refine S_ifeq (pc := 50) (tgt := 56) dX9_compiledField_50 (by decide) ?_ ?_
        · exact (S_lv (lv0 := [some (.ref r0), some (.int v1), none, some (.int x_47)]) (And.intro rfl (And.intro rfl (And.intro rfl trivial))) (sX9_compiledField_56 r0 v1 x_47))
        · refine S_bipush (pc := 53) (v := (nI 6)) dX9_compiledField_53 kB_6 ?_
          exact S_iret (pc := 55) ⟨rfl, rfl⟩ rfl rfl dX9_compiledField_55
    · refine S_iconst (pc := 32) (v := (nI 5)) dX9_compiledField_32 kI_5 ?_
      exact S_iret (pc := 33) ⟨rfl, rfl⟩ rfl rfl dX9_compiledField_33
  · refine S_iconst (pc := 21) (v := (nI 3)) dX9_compiledField_21 kI_3 ?_
    exact S_iret (pc := 22) ⟨rfl, rfl⟩ rfl rfl dX9_compiledField_22
theorem ktX9_compiledField (r0 : Nat) (v1 : Int32) (v2 : Int32) : Ct mX9_compiledField rI [.ref r0, .int v1, .int v2] (fX9_compiledField r0 v1 v2) := Ct.of (z := 1) pn_X9 rfl rfl rfl (sX9_compiledField r0 v1 v2)
def mX9_isMethod : MI := (yX9_isMethod, cX9_isMethod, 3, (some .boolean), { frames := 2, cells := 0, slots := 0, locals := 44 }, [])
theorem mw_X9_isMethod : MW mX9_isMethod 2 := ⟨w1281, w11, ⟨by decide, by decide⟩, by decide +kernel⟩
theorem mv_X9_isMethod : MV mX9_isMethod 9 := ⟨_, rfl, w1280, wp56⟩
def fX9_isMethod  (r0 : Nat) (v1 : Int32) (v2 : Int32) : AH → Option (Int32 × AH) := fun h =>
  cv 9 r0 (fX9_its r0 v1 v2 (nI 0)) h fun x_2 h =>
  if x_2 = (nI 1) then (
    rz (nI 1) (nI 1) h)
  else
  rz (nI 0) (nI 0) h
theorem sX9_isMethod  (r0 : Nat) (v1 : Int32) (v2 : Int32) : Sm mX9_isMethod rI 0 0 0 [some (.ref r0), some (.int v1), some (.int v2)] [] (fX9_isMethod r0 v1 v2) := by
  unfold fX9_isMethod
  refine S_aload_n (pc := 0) dX9_isMethod_0 rfl ?_
  refine S_iload_n (pc := 1) dX9_isMethod_1 rfl ?_
  refine S_iload_n (pc := 2) dX9_isMethod_2 rfl ?_
  refine S_iconst (pc := 3) (v := (nI 0)) dX9_isMethod_3 kI_0 ?_
  refine Y_Vi (pc := 4) (st := []) (kc' := 0) (ks' := 0) (ktX9_its r0 v1 v2 (nI 0)) mw_X9_its mv_X9_its w1243 (RO.mk rfl rfl rfl rfl) rfl rfl rfl dX9_isMethod_4 ⟨rfl, rfl⟩ (fun x_2 => ?_)
  refine S_iconst (pc := 7) (v := (nI 1)) dX9_isMethod_7 kI_1 ?_
  refine S_icmpne (pc := 8) (tgt := 15) dX9_isMethod_8 (by decide) ?_ ?_
  · refine S_iconst (pc := 15) (v := (nI 0)) dX9_isMethod_15 kI_0 ?_
    exact S_zret (pc := 16) ⟨rfl, rfl⟩ rfl rfl dX9_isMethod_16
  · refine S_iconst (pc := 11) (v := (nI 1)) dX9_isMethod_11 kI_1 ?_
    refine S_goto (pc := 12) (tgt := 16) dX9_isMethod_12 (by decide) ?_
    exact S_zret (pc := 16) ⟨rfl, rfl⟩ rfl rfl dX9_isMethod_16
theorem ktX9_isMethod (r0 : Nat) (v1 : Int32) (v2 : Int32) : Ct mX9_isMethod rI [.ref r0, .int v1, .int v2] (fX9_isMethod r0 v1 v2) := Ct.of (z := 0) pn_X9 rfl rfl rfl (sX9_isMethod r0 v1 v2)
def mX9_isInterface : MI := (yX9_isInterface, cX9_isInterface, 3, (some .boolean), { frames := 2, cells := 0, slots := 0, locals := 44 }, [])
theorem mw_X9_isInterface : MW mX9_isInterface 2 := ⟨w1285, w11, ⟨by decide, by decide⟩, by decide +kernel⟩
theorem mv_X9_isInterface : MV mX9_isInterface 9 := ⟨_, rfl, w1284, wp57⟩
def fX9_isInterface  (r0 : Nat) (v1 : Int32) (v2 : Int32) : AH → Option (Int32 × AH) := fun h =>
  cv 9 r0 (fX9_of r0 v1 v2 (nI 1)) h fun x_2 h =>
  if x_2 = (nI 1) then (
    rz (nI 1) (nI 1) h)
  else
  rz (nI 0) (nI 0) h
theorem sX9_isInterface  (r0 : Nat) (v1 : Int32) (v2 : Int32) : Sm mX9_isInterface rI 0 0 0 [some (.ref r0), some (.int v1), some (.int v2)] [] (fX9_isInterface r0 v1 v2) := by
  unfold fX9_isInterface
  refine S_aload_n (pc := 0) dX9_isInterface_0 rfl ?_
  refine S_iload_n (pc := 1) dX9_isInterface_1 rfl ?_
  refine S_iload_n (pc := 2) dX9_isInterface_2 rfl ?_
  refine S_iconst (pc := 3) (v := (nI 1)) dX9_isInterface_3 kI_1 ?_
  refine Y_Vi (pc := 4) (st := []) (kc' := 0) (ks' := 0) (ktX9_of r0 v1 v2 (nI 1)) mw_X9_of mv_X9_of w1219 (RO.mk rfl rfl rfl rfl) rfl rfl rfl dX9_isInterface_4 ⟨rfl, rfl⟩ (fun x_2 => ?_)
  refine S_iconst (pc := 7) (v := (nI 1)) dX9_isInterface_7 kI_1 ?_
  refine S_icmpne (pc := 8) (tgt := 15) dX9_isInterface_8 (by decide) ?_ ?_
  · refine S_iconst (pc := 15) (v := (nI 0)) dX9_isInterface_15 kI_0 ?_
    exact S_zret (pc := 16) ⟨rfl, rfl⟩ rfl rfl dX9_isInterface_16
  · refine S_iconst (pc := 11) (v := (nI 1)) dX9_isInterface_11 kI_1 ?_
    refine S_goto (pc := 12) (tgt := 16) dX9_isInterface_12 (by decide) ?_
    exact S_zret (pc := 16) ⟨rfl, rfl⟩ rfl rfl dX9_isInterface_16
theorem ktX9_isInterface (r0 : Nat) (v1 : Int32) (v2 : Int32) : Ct mX9_isInterface rI [.ref r0, .int v1, .int v2] (fX9_isInterface r0 v1 v2) := Ct.of (z := 0) pn_X9 rfl rfl rfl (sX9_isInterface r0 v1 v2)
def mX9_isHidden : MI := (yX9_isHidden, cX9_isHidden, 9, (some .boolean), { frames := 3, cells := 0, slots := 0, locals := 69 }, [])
theorem mw_X9_isHidden : MW mX9_isHidden 3 := ⟨w1289, w11, ⟨by decide, by decide⟩, by decide +kernel⟩
theorem mv_X9_isHidden : MV mX9_isHidden 9 := ⟨_, rfl, w1288, wp58⟩
def fX9_isHidden_161 (k15 : Nat → Int32 → Int32 → Int32 → Int32 → Int32 → Int32 → AH → Option (Int32 × AH)) (r0 : Nat) (v1 : Int32) (v2 : Int32) (v3 : Int32) (v5 : Int32) (v6 : Int32) (s0 : Int32) : AH → Option (Int32 × AH) := fun h =>
  k15 r0 v1 v2 v3 s0 v5 (v6 + (nI 1)) h
def fX9_isHidden_160 (k15 : Nat → Int32 → Int32 → Int32 → Int32 → Int32 → Int32 → AH → Option (Int32 × AH)) (r0 : Nat) (v1 : Int32) (v2 : Int32) (v3 : Int32) (v5 : Int32) (v6 : Int32) : AH → Option (Int32 × AH) := fun h =>
  fX9_isHidden_161 k15 r0 v1 v2 v3 v5 v6 (nI 0) h
def fX9_isHidden_107 (k15 : Nat → Int32 → Int32 → Int32 → Int32 → Int32 → Int32 → AH → Option (Int32 × AH)) (r0 : Nat) (v1 : Int32) (v2 : Int32) (v3 : Int32) (v5 : Int32) (v6 : Int32) (v7 : Int32) (s0 : Int32) : AH → Option (Int32 × AH) := fun h =>
  if s0 = 0 then (
    fX9_isHidden_160 k15 r0 v1 v2 v3 v5 v6 h)
  else
  if v7 = v5 then (
    fX9_isHidden_160 k15 r0 v1 v2 v3 v5 v6 h)
  else
  bd (fX9_has v3 v7 h) fun x_29 h =>
  if x_29 = 0 then (
    fX9_isHidden_160 k15 r0 v1 v2 v3 v5 v6 h)
  else
  cv 9 r0 (fX9_its r0 v1 v6 (nI 3)) h fun x_30 h =>
  if x_30 ≤ 0 then (
    fX9_isHidden_160 k15 r0 v1 v2 v3 v5 v6 h)
  else
  cv 9 r0 (fX9_supertypes r0 v1 v7) h fun x_31 h =>
  bd (fX9_has x_31 v5 h) fun x_32 h =>
  if x_32 = 0 then (
    fX9_isHidden_160 k15 r0 v1 v2 v3 v5 v6 h)
  else
  fX9_isHidden_161 k15 r0 v1 v2 v3 v5 v6 (nI 1) h
def fX9_isHidden_106 (k15 : Nat → Int32 → Int32 → Int32 → Int32 → Int32 → Int32 → AH → Option (Int32 × AH)) (r0 : Nat) (v1 : Int32) (v2 : Int32) (v3 : Int32) (v5 : Int32) (v6 : Int32) (v7 : Int32) : AH → Option (Int32 × AH) := fun h =>
  fX9_isHidden_107 k15 r0 v1 v2 v3 v5 v6 v7 (nI 0) h
def bX9_isHidden_15  (k15 : Nat → Int32 → Int32 → Int32 → Int32 → Int32 → Int32 → AH → Option (Int32 × AH)) (r0 : Nat) (v1 : Int32) (v2 : Int32) (v3 : Int32) (v4 : Int32) (v5 : Int32) (v6 : Int32) : AH → Option (Int32 × AH) := fun h =>
  cv 9 r0 (fX9_memberMany r0 v1) h fun x_33 h =>
  if x_33 ≤ v6 then (
    rz v4 v4 h)
  else
  if v4 = 0 then (
    cv 9 r0 (fX9_its r0 v1 v6 (nI 1)) h fun x_34 h =>
    cv 9 r0 (fX9_isMethod r0 v1 v6) h fun x_35 h =>
    if x_35 = 0 then (
      fX9_isHidden_106 k15 r0 v1 v2 v3 v5 v6 x_34 h)
    else
    cv 9 r0 (fX9_its r0 v1 v6 (nI 2)) h fun x_36 h =>
    cv 9 r0 (fX9_its r0 v1 v2 (nI 2)) h fun x_37 h =>
    if x_36 = x_37 then (
      cv 9 r0 (fX9_its r0 v1 v2 (nI 6)) h fun x_38 h =>
      cv 9 r0 (fX9_its r0 v1 v2 (nI 7)) h fun x_39 h =>
      cv 9 r0 (fX9_its r0 v1 v2 (nI 8)) h fun x_40 h =>
      cv 9 r0 (fX9_hasParameters r0 v1 v6 x_38 x_39 x_40) h fun x_41 h =>
      if x_41 = 0 then (
        fX9_isHidden_106 k15 r0 v1 v2 v3 v5 v6 x_34 h)
      else
      fX9_isHidden_107 k15 r0 v1 v2 v3 v5 v6 x_34 (nI 1) h)
    else
    fX9_isHidden_106 k15 r0 v1 v2 v3 v5 v6 x_34 h)
  else
  rz v4 v4 h
def lX9_isHidden_15  : Nat → Nat → Int32 → Int32 → Int32 → Int32 → Int32 → Int32 → AH → Option (Int32 × AH)
  | 0 => fun _ _ _ _ _ _ _ _ => none
  | n + 1 => bX9_isHidden_15 (lX9_isHidden_15 n)
def fX9_isHidden  (r0 : Nat) (v1 : Int32) (v2 : Int32) (v3 : Int32) : AH → Option (Int32 × AH) := fun h =>
  cv 9 r0 (fX9_its r0 v1 v2 (nI 1)) h fun x_42 h =>
  lX9_isHidden_15 fuel r0 v1 v2 v3 (nI 0) x_42 (nI 0) h
theorem sX9_isHidden_161 {k15 : Nat → Int32 → Int32 → Int32 → Int32 → Int32 → Int32 → AH → Option (Int32 × AH)} (h15 : ∀ (r0 : Nat) (v1 : Int32) (v2 : Int32) (v3 : Int32) (v4 : Int32) (v5 : Int32) (v6 : Int32), Sm mX9_isHidden rI 0 0 15 [some (.ref r0), some (.int v1), some (.int v2), some (.int v3), some (.int v4), some (.int v5), some (.int v6), none, none] [] (k15 r0 v1 v2 v3 v4 v5 v6)) (r0 : Nat) (v1 : Int32) (v2 : Int32) (v3 : Int32) (v5 : Int32) (v6 : Int32) (s0 : Int32) : Sm mX9_isHidden rI 0 0 161 [some (.ref r0), some (.int v1), some (.int v2), some (.int v3), none, some (.int v5), some (.int v6), none, none] [.int s0] (fX9_isHidden_161 k15 r0 v1 v2 v3 v5 v6 s0) := by
  unfold fX9_isHidden_161
  refine Z_istore (pc := 161) (lv' := [some (.ref r0), some (.int v1), some (.int v2), some (.int v3), some (.int s0), some (.int v5), some (.int v6), none, none]) dX9_isHidden_161 rfl rfl rfl ?_
  refine Z_iinc (pc := 163) (v := (nI 1)) (lv' := [some (.ref r0), some (.int v1), some (.int v2), some (.int v3), some (.int s0), some (.int v5), some (.int (v6 + (nI 1))), none, none]) dX9_isHidden_163 rfl kI_1 rfl rfl rfl ?_
  refine S_goto (pc := 166) (tgt := 15) dX9_isHidden_166 (by decide) ?_
  exact (h15 r0 v1 v2 v3 s0 v5 (v6 + (nI 1)))
theorem sX9_isHidden_160 {k15 : Nat → Int32 → Int32 → Int32 → Int32 → Int32 → Int32 → AH → Option (Int32 × AH)} (h15 : ∀ (r0 : Nat) (v1 : Int32) (v2 : Int32) (v3 : Int32) (v4 : Int32) (v5 : Int32) (v6 : Int32), Sm mX9_isHidden rI 0 0 15 [some (.ref r0), some (.int v1), some (.int v2), some (.int v3), some (.int v4), some (.int v5), some (.int v6), none, none] [] (k15 r0 v1 v2 v3 v4 v5 v6)) (r0 : Nat) (v1 : Int32) (v2 : Int32) (v3 : Int32) (v5 : Int32) (v6 : Int32) : Sm mX9_isHidden rI 0 0 160 [some (.ref r0), some (.int v1), some (.int v2), some (.int v3), none, some (.int v5), some (.int v6), none, none] [] (fX9_isHidden_160 k15 r0 v1 v2 v3 v5 v6) := by
  unfold fX9_isHidden_160
  refine S_iconst (pc := 160) (v := (nI 0)) dX9_isHidden_160 kI_0 ?_
  exact (sX9_isHidden_161 h15 r0 v1 v2 v3 v5 v6 (nI 0))
theorem sX9_isHidden_107 {k15 : Nat → Int32 → Int32 → Int32 → Int32 → Int32 → Int32 → AH → Option (Int32 × AH)} (h15 : ∀ (r0 : Nat) (v1 : Int32) (v2 : Int32) (v3 : Int32) (v4 : Int32) (v5 : Int32) (v6 : Int32), Sm mX9_isHidden rI 0 0 15 [some (.ref r0), some (.int v1), some (.int v2), some (.int v3), some (.int v4), some (.int v5), some (.int v6), none, none] [] (k15 r0 v1 v2 v3 v4 v5 v6)) (r0 : Nat) (v1 : Int32) (v2 : Int32) (v3 : Int32) (v5 : Int32) (v6 : Int32) (v7 : Int32) (s0 : Int32) : Sm mX9_isHidden rI 0 0 107 [some (.ref r0), some (.int v1), some (.int v2), some (.int v3), none, some (.int v5), some (.int v6), some (.int v7), none] [.int s0] (fX9_isHidden_107 k15 r0 v1 v2 v3 v5 v6 v7 s0) := by
  unfold fX9_isHidden_107
  refine Z_istore (pc := 107) (lv' := [some (.ref r0), some (.int v1), some (.int v2), some (.int v3), none, some (.int v5), some (.int v6), some (.int v7), some (.int s0)]) dX9_isHidden_107 rfl rfl rfl ?_
  refine S_iload (pc := 109) dX9_isHidden_109 rfl ?_
  refine S_ifeq (pc := 111) (tgt := 160) dX9_isHidden_111 (by decide) ?_ ?_
  · exact (S_lv (lv0 := [some (.ref r0), some (.int v1), some (.int v2), some (.int v3), none, some (.int v5), some (.int v6), none, none]) (And.intro rfl (And.intro rfl (And.intro rfl (And.intro rfl (And.intro rfl (And.intro rfl trivial)))))) (sX9_isHidden_160 h15 r0 v1 v2 v3 v5 v6))
  · refine S_iload (pc := 114) dX9_isHidden_114 rfl ?_
    refine S_iload (pc := 116) dX9_isHidden_116 rfl ?_
    refine S_icmpeq (pc := 118) (tgt := 160) dX9_isHidden_118 (by decide) ?_ ?_
    · exact (S_lv (lv0 := [some (.ref r0), some (.int v1), some (.int v2), some (.int v3), none, some (.int v5), some (.int v6), none, none]) (And.intro rfl (And.intro rfl (And.intro rfl (And.intro rfl (And.intro rfl (And.intro rfl trivial)))))) (sX9_isHidden_160 h15 r0 v1 v2 v3 v5 v6))
    · refine S_iload_n (pc := 121) dX9_isHidden_121 rfl ?_
      refine S_iload (pc := 122) dX9_isHidden_122 rfl ?_
      refine Y_Ti (pc := 124) (st := []) (kc' := 0) (ks' := 0) (ktX9_has v3 v7) mw_X9_has w1252 w1251 (RO.mk rfl rfl rfl rfl) rfl rfl rfl dX9_isHidden_124 ⟨rfl, rfl⟩ (fun x_29 => ?_)
      refine S_ifeq (pc := 127) (tgt := 160) dX9_isHidden_127 (by decide) ?_ ?_
      · exact (S_lv (lv0 := [some (.ref r0), some (.int v1), some (.int v2), some (.int v3), none, some (.int v5), some (.int v6), none, none]) (And.intro rfl (And.intro rfl (And.intro rfl (And.intro rfl (And.intro rfl (And.intro rfl trivial)))))) (sX9_isHidden_160 h15 r0 v1 v2 v3 v5 v6))
      · refine S_aload_n (pc := 130) dX9_isHidden_130 rfl ?_
        refine S_iload_n (pc := 131) dX9_isHidden_131 rfl ?_
        refine S_iload (pc := 132) dX9_isHidden_132 rfl ?_
        refine S_iconst (pc := 134) (v := (nI 3)) dX9_isHidden_134 kI_3 ?_
        refine Y_Vi (pc := 135) (st := []) (kc' := 0) (ks' := 0) (ktX9_its r0 v1 v6 (nI 3)) mw_X9_its mv_X9_its w1243 (RO.mk rfl rfl rfl rfl) rfl rfl rfl dX9_isHidden_135 ⟨rfl, rfl⟩ (fun x_30 => ?_)
        refine S_ifle (pc := 138) (tgt := 160) dX9_isHidden_138 (by decide) ?_ ?_
        · exact (S_lv (lv0 := [some (.ref r0), some (.int v1), some (.int v2), some (.int v3), none, some (.int v5), some (.int v6), none, none]) (And.intro rfl (And.intro rfl (And.intro rfl (And.intro rfl (And.intro rfl (And.intro rfl trivial)))))) (sX9_isHidden_160 h15 r0 v1 v2 v3 v5 v6))
        · refine S_aload_n (pc := 141) dX9_isHidden_141 rfl ?_
          refine S_iload_n (pc := 142) dX9_isHidden_142 rfl ?_
          refine S_iload (pc := 143) dX9_isHidden_143 rfl ?_
          refine Y_Vi (pc := 145) (st := []) (kc' := 0) (ks' := 0) (ktX9_supertypes r0 v1 v7) mw_X9_supertypes mv_X9_supertypes w1258 (RO.mk rfl rfl rfl rfl) rfl rfl rfl dX9_isHidden_145 ⟨rfl, rfl⟩ (fun x_31 => ?_)
          refine S_iload (pc := 148) dX9_isHidden_148 rfl ?_
          refine Y_Ti (pc := 150) (st := []) (kc' := 0) (ks' := 0) (ktX9_has x_31 v5) mw_X9_has w1252 w1251 (RO.mk rfl rfl rfl rfl) rfl rfl rfl dX9_isHidden_150 ⟨rfl, rfl⟩ (fun x_32 => ?_)
          refine S_ifeq (pc := 153) (tgt := 160) dX9_isHidden_153 (by decide) ?_ ?_
          · exact (S_lv (lv0 := [some (.ref r0), some (.int v1), some (.int v2), some (.int v3), none, some (.int v5), some (.int v6), none, none]) (And.intro rfl (And.intro rfl (And.intro rfl (And.intro rfl (And.intro rfl (And.intro rfl trivial)))))) (sX9_isHidden_160 h15 r0 v1 v2 v3 v5 v6))
          · refine S_iconst (pc := 156) (v := (nI 1)) dX9_isHidden_156 kI_1 ?_
            refine S_goto (pc := 157) (tgt := 161) dX9_isHidden_157 (by decide) ?_
            exact (S_lv (lv0 := [some (.ref r0), some (.int v1), some (.int v2), some (.int v3), none, some (.int v5), some (.int v6), none, none]) (And.intro rfl (And.intro rfl (And.intro rfl (And.intro rfl (And.intro rfl (And.intro rfl trivial)))))) (sX9_isHidden_161 h15 r0 v1 v2 v3 v5 v6 (nI 1)))
theorem sX9_isHidden_106 {k15 : Nat → Int32 → Int32 → Int32 → Int32 → Int32 → Int32 → AH → Option (Int32 × AH)} (h15 : ∀ (r0 : Nat) (v1 : Int32) (v2 : Int32) (v3 : Int32) (v4 : Int32) (v5 : Int32) (v6 : Int32), Sm mX9_isHidden rI 0 0 15 [some (.ref r0), some (.int v1), some (.int v2), some (.int v3), some (.int v4), some (.int v5), some (.int v6), none, none] [] (k15 r0 v1 v2 v3 v4 v5 v6)) (r0 : Nat) (v1 : Int32) (v2 : Int32) (v3 : Int32) (v5 : Int32) (v6 : Int32) (v7 : Int32) : Sm mX9_isHidden rI 0 0 106 [some (.ref r0), some (.int v1), some (.int v2), some (.int v3), none, some (.int v5), some (.int v6), some (.int v7), none] [] (fX9_isHidden_106 k15 r0 v1 v2 v3 v5 v6 v7) := by
  unfold fX9_isHidden_106
  refine S_iconst (pc := 106) (v := (nI 0)) dX9_isHidden_106 kI_0 ?_
  exact (sX9_isHidden_107 h15 r0 v1 v2 v3 v5 v6 v7 (nI 0))
theorem sbX9_isHidden_15  {k15 : Nat → Int32 → Int32 → Int32 → Int32 → Int32 → Int32 → AH → Option (Int32 × AH)} (h15 : ∀ (r0 : Nat) (v1 : Int32) (v2 : Int32) (v3 : Int32) (v4 : Int32) (v5 : Int32) (v6 : Int32), Sm mX9_isHidden rI 0 0 15 [some (.ref r0), some (.int v1), some (.int v2), some (.int v3), some (.int v4), some (.int v5), some (.int v6), none, none] [] (k15 r0 v1 v2 v3 v4 v5 v6)) (r0 : Nat) (v1 : Int32) (v2 : Int32) (v3 : Int32) (v4 : Int32) (v5 : Int32) (v6 : Int32) : Sm mX9_isHidden rI 0 0 15 [some (.ref r0), some (.int v1), some (.int v2), some (.int v3), some (.int v4), some (.int v5), some (.int v6), none, none] [] (bX9_isHidden_15 k15 r0 v1 v2 v3 v4 v5 v6) := by
  unfold bX9_isHidden_15
  refine S_iload (pc := 15) dX9_isHidden_15 rfl ?_
  refine S_aload_n (pc := 17) dX9_isHidden_17 rfl ?_
  refine S_iload_n (pc := 18) dX9_isHidden_18 rfl ?_
  refine Y_Vi (pc := 19) (st := [.int v6]) (kc' := 0) (ks' := 0) (ktX9_memberMany r0 v1) mw_X9_memberMany mv_X9_memberMany w1186 (RO.mk rfl rfl rfl rfl) rfl rfl rfl dX9_isHidden_19 ⟨rfl, rfl⟩ (fun x_33 => ?_)
  refine S_icmpge (pc := 22) (tgt := 169) dX9_isHidden_22 (by decide) ?_ ?_
  · refine S_iload (pc := 169) dX9_isHidden_169 rfl ?_
    exact S_zret (pc := 171) ⟨rfl, rfl⟩ rfl rfl dX9_isHidden_171
  · refine S_iload (pc := 25) dX9_isHidden_25 rfl ?_
    refine S_ifne (pc := 27) (tgt := 169) dX9_isHidden_27 (by decide) ?_ ?_
    · refine S_iload (pc := 169) dX9_isHidden_169 rfl ?_
      exact S_zret (pc := 171) ⟨rfl, rfl⟩ rfl rfl dX9_isHidden_171
    · refine S_aload_n (pc := 30) dX9_isHidden_30 rfl ?_
      refine S_iload_n (pc := 31) dX9_isHidden_31 rfl ?_
      refine S_iload (pc := 32) dX9_isHidden_32 rfl ?_
      refine S_iconst (pc := 34) (v := (nI 1)) dX9_isHidden_34 kI_1 ?_
      refine Y_Vi (pc := 35) (st := []) (kc' := 0) (ks' := 0) (ktX9_its r0 v1 v6 (nI 1)) mw_X9_its mv_X9_its w1243 (RO.mk rfl rfl rfl rfl) rfl rfl rfl dX9_isHidden_35 ⟨rfl, rfl⟩ (fun x_34 => ?_)
      refine Z_istore (pc := 38) (lv' := [some (.ref r0), some (.int v1), some (.int v2), some (.int v3), some (.int v4), some (.int v5), some (.int v6), some (.int x_34), none]) dX9_isHidden_38 rfl rfl rfl ?_
      refine S_aload_n (pc := 40) dX9_isHidden_40 rfl ?_
      refine S_iload_n (pc := 41) dX9_isHidden_41 rfl ?_
      refine S_iload (pc := 42) dX9_isHidden_42 rfl ?_
      refine Y_Vi (pc := 44) (st := []) (kc' := 0) (ks' := 0) (ktX9_isMethod r0 v1 v6) mw_X9_isMethod mv_X9_isMethod w1278 (RO.mk rfl rfl rfl rfl) rfl rfl rfl dX9_isHidden_44 ⟨rfl, rfl⟩ (fun x_35 => ?_)
      refine S_ifeq (pc := 47) (tgt := 106) dX9_isHidden_47 (by decide) ?_ ?_
      · exact (S_lv (lv0 := [some (.ref r0), some (.int v1), some (.int v2), some (.int v3), none, some (.int v5), some (.int v6), some (.int x_34), none]) (And.intro rfl (And.intro rfl (And.intro rfl (And.intro rfl (And.intro rfl (And.intro rfl (And.intro rfl trivial))))))) (sX9_isHidden_106 h15 r0 v1 v2 v3 v5 v6 x_34))
      · refine S_aload_n (pc := 50) dX9_isHidden_50 rfl ?_
        refine S_iload_n (pc := 51) dX9_isHidden_51 rfl ?_
        refine S_iload (pc := 52) dX9_isHidden_52 rfl ?_
        refine S_iconst (pc := 54) (v := (nI 2)) dX9_isHidden_54 kI_2 ?_
        refine Y_Vi (pc := 55) (st := []) (kc' := 0) (ks' := 0) (ktX9_its r0 v1 v6 (nI 2)) mw_X9_its mv_X9_its w1243 (RO.mk rfl rfl rfl rfl) rfl rfl rfl dX9_isHidden_55 ⟨rfl, rfl⟩ (fun x_36 => ?_)
        refine S_aload_n (pc := 58) dX9_isHidden_58 rfl ?_
        refine S_iload_n (pc := 59) dX9_isHidden_59 rfl ?_
        refine S_iload_n (pc := 60) dX9_isHidden_60 rfl ?_
        refine S_iconst (pc := 61) (v := (nI 2)) dX9_isHidden_61 kI_2 ?_
        refine Y_Vi (pc := 62) (st := [.int x_36]) (kc' := 0) (ks' := 0) (ktX9_its r0 v1 v2 (nI 2)) mw_X9_its mv_X9_its w1243 (RO.mk rfl rfl rfl rfl) rfl rfl rfl dX9_isHidden_62 ⟨rfl, rfl⟩ (fun x_37 => ?_)
        refine S_icmpne (pc := 65) (tgt := 106) dX9_isHidden_65 (by decide) ?_ ?_
        · exact (S_lv (lv0 := [some (.ref r0), some (.int v1), some (.int v2), some (.int v3), none, some (.int v5), some (.int v6), some (.int x_34), none]) (And.intro rfl (And.intro rfl (And.intro rfl (And.intro rfl (And.intro rfl (And.intro rfl (And.intro rfl trivial))))))) (sX9_isHidden_106 h15 r0 v1 v2 v3 v5 v6 x_34))
        · refine S_aload_n (pc := 68) dX9_isHidden_68 rfl ?_
          refine S_iload_n (pc := 69) dX9_isHidden_69 rfl ?_
          refine S_iload (pc := 70) dX9_isHidden_70 rfl ?_
          refine S_aload_n (pc := 72) dX9_isHidden_72 rfl ?_
          refine S_iload_n (pc := 73) dX9_isHidden_73 rfl ?_
          refine S_iload_n (pc := 74) dX9_isHidden_74 rfl ?_
          refine S_bipush (pc := 75) (v := (nI 6)) dX9_isHidden_75 kB_6 ?_
          refine Y_Vi (pc := 77) (st := [.int v6, .int v1, .ref r0]) (kc' := 0) (ks' := 0) (ktX9_its r0 v1 v2 (nI 6)) mw_X9_its mv_X9_its w1243 (RO.mk rfl rfl rfl rfl) rfl rfl rfl dX9_isHidden_77 ⟨rfl, rfl⟩ (fun x_38 => ?_)
          refine S_aload_n (pc := 80) dX9_isHidden_80 rfl ?_
          refine S_iload_n (pc := 81) dX9_isHidden_81 rfl ?_
          refine S_iload_n (pc := 82) dX9_isHidden_82 rfl ?_
          refine S_bipush (pc := 83) (v := (nI 7)) dX9_isHidden_83 kB_7 ?_
          refine Y_Vi (pc := 85) (st := [.int x_38, .int v6, .int v1, .ref r0]) (kc' := 0) (ks' := 0) (ktX9_its r0 v1 v2 (nI 7)) mw_X9_its mv_X9_its w1243 (RO.mk rfl rfl rfl rfl) rfl rfl rfl dX9_isHidden_85 ⟨rfl, rfl⟩ (fun x_39 => ?_)
          refine S_aload_n (pc := 88) dX9_isHidden_88 rfl ?_
          refine S_iload_n (pc := 89) dX9_isHidden_89 rfl ?_
          refine S_iload_n (pc := 90) dX9_isHidden_90 rfl ?_
          refine S_bipush (pc := 91) (v := (nI 8)) dX9_isHidden_91 kB_8 ?_
          refine Y_Vi (pc := 93) (st := [.int x_39, .int x_38, .int v6, .int v1, .ref r0]) (kc' := 0) (ks' := 0) (ktX9_its r0 v1 v2 (nI 8)) mw_X9_its mv_X9_its w1243 (RO.mk rfl rfl rfl rfl) rfl rfl rfl dX9_isHidden_93 ⟨rfl, rfl⟩ (fun x_40 => ?_)
          refine Y_Vi (pc := 96) (st := []) (kc' := 0) (ks' := 0) (ktX9_hasParameters r0 v1 v6 x_38 x_39 x_40) mw_X9_hasParameters mv_X9_hasParameters w1247 (RO.mk rfl rfl rfl rfl) rfl rfl rfl dX9_isHidden_96 ⟨rfl, rfl⟩ (fun x_41 => ?_)
          refine S_ifeq (pc := 99) (tgt := 106) dX9_isHidden_99 (by decide) ?_ ?_
          · exact (S_lv (lv0 := [some (.ref r0), some (.int v1), some (.int v2), some (.int v3), none, some (.int v5), some (.int v6), some (.int x_34), none]) (And.intro rfl (And.intro rfl (And.intro rfl (And.intro rfl (And.intro rfl (And.intro rfl (And.intro rfl trivial))))))) (sX9_isHidden_106 h15 r0 v1 v2 v3 v5 v6 x_34))
          · refine S_iconst (pc := 102) (v := (nI 1)) dX9_isHidden_102 kI_1 ?_
            refine S_goto (pc := 103) (tgt := 107) dX9_isHidden_103 (by decide) ?_
            exact (S_lv (lv0 := [some (.ref r0), some (.int v1), some (.int v2), some (.int v3), none, some (.int v5), some (.int v6), some (.int x_34), none]) (And.intro rfl (And.intro rfl (And.intro rfl (And.intro rfl (And.intro rfl (And.intro rfl (And.intro rfl trivial))))))) (sX9_isHidden_107 h15 r0 v1 v2 v3 v5 v6 x_34 (nI 1)))
theorem sX9_isHidden_15  : ∀ (n : Nat) (r0 : Nat) (v1 : Int32) (v2 : Int32) (v3 : Int32) (v4 : Int32) (v5 : Int32) (v6 : Int32), Sm mX9_isHidden rI 0 0 15 [some (.ref r0), some (.int v1), some (.int v2), some (.int v3), some (.int v4), some (.int v5), some (.int v6), none, none] [] (lX9_isHidden_15 n r0 v1 v2 v3 v4 v5 v6)
  | 0, _, _, _, _, _, _, _ => S_none
  | n + 1, r0, v1, v2, v3, v4, v5, v6 => sbX9_isHidden_15 (sX9_isHidden_15 n) r0 v1 v2 v3 v4 v5 v6
theorem sX9_isHidden  (r0 : Nat) (v1 : Int32) (v2 : Int32) (v3 : Int32) : Sm mX9_isHidden rI 0 0 0 [some (.ref r0), some (.int v1), some (.int v2), some (.int v3), none, none, none, none, none] [] (fX9_isHidden r0 v1 v2 v3) := by
  unfold fX9_isHidden
  refine S_iconst (pc := 0) (v := (nI 0)) dX9_isHidden_0 kI_0 ?_
  refine Z_istore (pc := 1) (lv' := [some (.ref r0), some (.int v1), some (.int v2), some (.int v3), some (.int (nI 0)), none, none, none, none]) dX9_isHidden_1 rfl rfl rfl ?_
  refine S_aload_n (pc := 3) dX9_isHidden_3 rfl ?_
  refine S_iload_n (pc := 4) dX9_isHidden_4 rfl ?_
  refine S_iload_n (pc := 5) dX9_isHidden_5 rfl ?_
  refine S_iconst (pc := 6) (v := (nI 1)) dX9_isHidden_6 kI_1 ?_
  refine Y_Vi (pc := 7) (st := []) (kc' := 0) (ks' := 0) (ktX9_its r0 v1 v2 (nI 1)) mw_X9_its mv_X9_its w1243 (RO.mk rfl rfl rfl rfl) rfl rfl rfl dX9_isHidden_7 ⟨rfl, rfl⟩ (fun x_42 => ?_)
  refine Z_istore (pc := 10) (lv' := [some (.ref r0), some (.int v1), some (.int v2), some (.int v3), some (.int (nI 0)), some (.int x_42), none, none, none]) dX9_isHidden_10 rfl rfl rfl ?_
  refine S_iconst (pc := 12) (v := (nI 0)) dX9_isHidden_12 kI_0 ?_
  refine Z_istore (pc := 13) (lv' := [some (.ref r0), some (.int v1), some (.int v2), some (.int v3), some (.int (nI 0)), some (.int x_42), some (.int (nI 0)), none, none]) dX9_isHidden_13 rfl rfl rfl ?_
  exact (sX9_isHidden_15 fuel r0 v1 v2 v3 (nI 0) x_42 (nI 0))
theorem ktX9_isHidden (r0 : Nat) (v1 : Int32) (v2 : Int32) (v3 : Int32) : Ct mX9_isHidden rI [.ref r0, .int v1, .int v2, .int v3] (fX9_isHidden r0 v1 v2 v3) := Ct.of (z := 5) pn_X9 rfl rfl rfl (sX9_isHidden r0 v1 v2 v3)
def mX9_isFit : MI := (yX9_isFit, cX9_isFit, 4, (some .boolean), { frames := 3, cells := 0, slots := 0, locals := 68 }, [])
theorem mw_X9_isFit : MW mX9_isFit 3 := ⟨w1293, w11, ⟨by decide, by decide⟩, by decide +kernel⟩
theorem mv_X9_isFit : MV mX9_isFit 9 := ⟨_, rfl, w1292, wp59⟩
def fX9_isFit  (r0 : Nat) (v1 : Int32) (v2 : Int32) (v3 : Int32) : AH → Option (Int32 × AH) := fun h =>
  if v2 = v3 then (
    rz (nI 1) (nI 1) h)
  else
  if v2 < 0 then (
    rz (nI 0) (nI 0) h)
  else
  if v3 < 0 then (
    rz (nI 0) (nI 0) h)
  else
  cv 9 r0 (fX9_isClass r0 v1 v2) h fun x_5 h =>
  if x_5 = 0 then (
    rz (nI 0) (nI 0) h)
  else
  cv 9 r0 (fX9_isClass r0 v1 v3) h fun x_6 h =>
  if x_6 = 0 then (
    rz (nI 0) (nI 0) h)
  else
  cv 9 r0 (fX9_supertypes r0 v1 v2) h fun x_7 h =>
  bd (fX9_has x_7 v3 h) fun x_8 h =>
  if x_8 = 0 then (
    rz (nI 0) (nI 0) h)
  else
  rz (nI 1) (nI 1) h
theorem sX9_isFit  (r0 : Nat) (v1 : Int32) (v2 : Int32) (v3 : Int32) : Sm mX9_isFit rI 0 0 0 [some (.ref r0), some (.int v1), some (.int v2), some (.int v3)] [] (fX9_isFit r0 v1 v2 v3) := by
  unfold fX9_isFit
  refine S_iload_n (pc := 0) dX9_isFit_0 rfl ?_
  refine S_iload_n (pc := 1) dX9_isFit_1 rfl ?_
  refine S_icmpne (pc := 2) (tgt := 7) dX9_isFit_2 (by decide) ?_ ?_
  · refine S_iload_n (pc := 7) dX9_isFit_7 rfl ?_
    refine S_iflt (pc := 8) (tgt := 50) dX9_isFit_8 (by decide) ?_ ?_
    · refine S_iconst (pc := 50) (v := (nI 0)) dX9_isFit_50 kI_0 ?_
      exact S_zret (pc := 51) ⟨rfl, rfl⟩ rfl rfl dX9_isFit_51
    · refine S_iload_n (pc := 11) dX9_isFit_11 rfl ?_
      refine S_iflt (pc := 12) (tgt := 50) dX9_isFit_12 (by decide) ?_ ?_
      · refine S_iconst (pc := 50) (v := (nI 0)) dX9_isFit_50 kI_0 ?_
        exact S_zret (pc := 51) ⟨rfl, rfl⟩ rfl rfl dX9_isFit_51
      · refine S_aload_n (pc := 15) dX9_isFit_15 rfl ?_
        refine S_iload_n (pc := 16) dX9_isFit_16 rfl ?_
        refine S_iload_n (pc := 17) dX9_isFit_17 rfl ?_
        refine Y_Vi (pc := 18) (st := []) (kc' := 0) (ks' := 0) (ktX9_isClass r0 v1 v2) mw_X9_isClass mv_X9_isClass w1209 (RO.mk rfl rfl rfl rfl) rfl rfl rfl dX9_isFit_18 ⟨rfl, rfl⟩ (fun x_5 => ?_)
        refine S_ifeq (pc := 21) (tgt := 50) dX9_isFit_21 (by decide) ?_ ?_
        · refine S_iconst (pc := 50) (v := (nI 0)) dX9_isFit_50 kI_0 ?_
          exact S_zret (pc := 51) ⟨rfl, rfl⟩ rfl rfl dX9_isFit_51
        · refine S_aload_n (pc := 24) dX9_isFit_24 rfl ?_
          refine S_iload_n (pc := 25) dX9_isFit_25 rfl ?_
          refine S_iload_n (pc := 26) dX9_isFit_26 rfl ?_
          refine Y_Vi (pc := 27) (st := []) (kc' := 0) (ks' := 0) (ktX9_isClass r0 v1 v3) mw_X9_isClass mv_X9_isClass w1209 (RO.mk rfl rfl rfl rfl) rfl rfl rfl dX9_isFit_27 ⟨rfl, rfl⟩ (fun x_6 => ?_)
          refine S_ifeq (pc := 30) (tgt := 50) dX9_isFit_30 (by decide) ?_ ?_
          · refine S_iconst (pc := 50) (v := (nI 0)) dX9_isFit_50 kI_0 ?_
            exact S_zret (pc := 51) ⟨rfl, rfl⟩ rfl rfl dX9_isFit_51
          · refine S_aload_n (pc := 33) dX9_isFit_33 rfl ?_
            refine S_iload_n (pc := 34) dX9_isFit_34 rfl ?_
            refine S_iload_n (pc := 35) dX9_isFit_35 rfl ?_
            refine Y_Vi (pc := 36) (st := []) (kc' := 0) (ks' := 0) (ktX9_supertypes r0 v1 v2) mw_X9_supertypes mv_X9_supertypes w1258 (RO.mk rfl rfl rfl rfl) rfl rfl rfl dX9_isFit_36 ⟨rfl, rfl⟩ (fun x_7 => ?_)
            refine S_iload_n (pc := 39) dX9_isFit_39 rfl ?_
            refine Y_Ti (pc := 40) (st := []) (kc' := 0) (ks' := 0) (ktX9_has x_7 v3) mw_X9_has w1252 w1251 (RO.mk rfl rfl rfl rfl) rfl rfl rfl dX9_isFit_40 ⟨rfl, rfl⟩ (fun x_8 => ?_)
            refine S_ifeq (pc := 43) (tgt := 50) dX9_isFit_43 (by decide) ?_ ?_
            · refine S_iconst (pc := 50) (v := (nI 0)) dX9_isFit_50 kI_0 ?_
              exact S_zret (pc := 51) ⟨rfl, rfl⟩ rfl rfl dX9_isFit_51
            · refine S_iconst (pc := 46) (v := (nI 1)) dX9_isFit_46 kI_1 ?_
              refine S_goto (pc := 47) (tgt := 51) dX9_isFit_47 (by decide) ?_
              exact S_zret (pc := 51) ⟨rfl, rfl⟩ rfl rfl dX9_isFit_51
  · refine S_iconst (pc := 5) (v := (nI 1)) dX9_isFit_5 kI_1 ?_
    exact S_zret (pc := 6) ⟨rfl, rfl⟩ rfl rfl dX9_isFit_6
theorem ktX9_isFit (r0 : Nat) (v1 : Int32) (v2 : Int32) (v3 : Int32) : Ct mX9_isFit rI [.ref r0, .int v1, .int v2, .int v3] (fX9_isFit r0 v1 v2 v3) := Ct.of (z := 0) pn_X9 rfl rfl rfl (sX9_isFit r0 v1 v2 v3)
def mX9_isApplicable : MI := (yX9_isApplicable, cX9_isApplicable, 8, (some .boolean), { frames := 4, cells := 0, slots := 0, locals := 97 }, [])
theorem mw_X9_isApplicable : MW mX9_isApplicable 4 := ⟨w1277, w11, ⟨by decide, by decide⟩, by decide +kernel⟩
theorem mv_X9_isApplicable : MV mX9_isApplicable 9 := ⟨_, rfl, w1276, wp55⟩
def bX9_isApplicable_138  (k138 : Nat → Int32 → Int32 → Int32 → Int32 → AH → Option (Int32 × AH)) (r0 : Nat) (v1 : Int32) (v2 : Int32) (v6 : Int32) (v7 : Int32) : AH → Option (Int32 × AH) := fun h =>
  (gP 9 r0 15 h).bind fun a_41 =>
  (ldI a_41 (nI 5) h).bind fun x_42 =>
  if x_42 ≤ v7 then (
    rz v6 v6 h)
  else
  if v6 = 0 then (
    rz v6 v6 h)
  else
  (gP 9 r0 15 h).bind fun a_43 =>
  (ldI a_43 ((nI 6) + v7) h).bind fun x_44 =>
  cv 9 r0 (fX9_its r0 v1 v2 ((nI 7) + v7)) h fun x_45 h =>
  cv 9 r0 (fX9_isFit r0 v1 x_44 x_45) h fun x_46 h =>
  k138 r0 v1 v2 x_46 (v7 + (nI 1)) h
def lX9_isApplicable_138  : Nat → Nat → Int32 → Int32 → Int32 → Int32 → AH → Option (Int32 × AH)
  | 0 => fun _ _ _ _ _ _ => none
  | n + 1 => bX9_isApplicable_138 (lX9_isApplicable_138 n)
def fX9_isApplicable_133  (r0 : Nat) (v1 : Int32) (v2 : Int32) (s0 : Int32) : AH → Option (Int32 × AH) := fun h =>
  lX9_isApplicable_138 fuel r0 v1 v2 s0 (nI 0) h
def fX9_isApplicable_132  (r0 : Nat) (v1 : Int32) (v2 : Int32) : AH → Option (Int32 × AH) := fun h =>
  fX9_isApplicable_133 r0 v1 v2 (nI 0) h
def fX9_isApplicable_117  (r0 : Nat) (v1 : Int32) (v2 : Int32) (v4 : Int32) : AH → Option (Int32 × AH) := fun h =>
  cv 9 r0 (fX9_isHidden r0 v1 v2 v4) h fun x_47 h =>
  if x_47 = 0 then (
    fX9_isApplicable_133 r0 v1 v2 (nI 1) h)
  else
  fX9_isApplicable_132 r0 v1 v2 h
def fX9_isApplicable_85  (r0 : Nat) (v1 : Int32) (v2 : Int32) (v3 : Int32) (v4 : Int32) (v5 : Int32) (s0 : Int32) : AH → Option (Int32 × AH) := fun h =>
  if s0 = 0 then (
    fX9_isApplicable_132 r0 v1 v2 h)
  else
  cv 9 r0 (fX9_isStatic r0 v1 v2) h fun x_48 h =>
  if x_48 = 0 then (
    fX9_isApplicable_117 r0 v1 v2 v4 h)
  else
  cv 9 r0 (fX9_isInterface r0 v1 v5) h fun x_49 h =>
  if x_49 = 0 then (
    fX9_isApplicable_117 r0 v1 v2 v4 h)
  else
  if v5 = v3 then (
    fX9_isApplicable_117 r0 v1 v2 v4 h)
  else
  fX9_isApplicable_132 r0 v1 v2 h
def fX9_isApplicable_84  (r0 : Nat) (v1 : Int32) (v2 : Int32) (v3 : Int32) (v4 : Int32) (v5 : Int32) : AH → Option (Int32 × AH) := fun h =>
  fX9_isApplicable_85 r0 v1 v2 v3 v4 v5 (nI 0) h
def fX9_isApplicable  (r0 : Nat) (v1 : Int32) (v2 : Int32) (v3 : Int32) (v4 : Int32) : AH → Option (Int32 × AH) := fun h =>
  cv 9 r0 (fX9_its r0 v1 v2 (nI 1)) h fun x_50 h =>
  cv 9 r0 (fX9_isMethod r0 v1 v2) h fun x_51 h =>
  if x_51 = 0 then (
    fX9_isApplicable_84 r0 v1 v2 v3 v4 x_50 h)
  else
  bd (fX9_has v4 x_50 h) fun x_52 h =>
  if x_52 = 0 then (
    fX9_isApplicable_84 r0 v1 v2 v3 v4 x_50 h)
  else
  cv 9 r0 (fX9_its r0 v1 v2 (nI 2)) h fun x_53 h =>
  (gP 9 r0 15 h).bind fun a_54 =>
  (ldI a_54 (nI 2) h).bind fun x_55 =>
  if x_53 = x_55 then (
    cv 9 r0 (fX9_its r0 v1 v2 (nI 6)) h fun x_56 h =>
    (gP 9 r0 15 h).bind fun a_57 =>
    (ldI a_57 (nI 5) h).bind fun x_58 =>
    if x_56 = x_58 then (
      cv 9 r0 (fX9_its r0 v1 v2 (nI 3)) h fun x_59 h =>
      if x_59 ≤ 0 then (
        fX9_isApplicable_84 r0 v1 v2 v3 v4 x_50 h)
      else
      cv 9 r0 (fX9_isOpen r0 v1 v2) h fun x_60 h =>
      if x_60 = 0 then (
        fX9_isApplicable_84 r0 v1 v2 v3 v4 x_50 h)
      else
      fX9_isApplicable_85 r0 v1 v2 v3 v4 x_50 (nI 1) h)
    else
    fX9_isApplicable_84 r0 v1 v2 v3 v4 x_50 h)
  else
  fX9_isApplicable_84 r0 v1 v2 v3 v4 x_50 h
theorem sbX9_isApplicable_138  {k138 : Nat → Int32 → Int32 → Int32 → Int32 → AH → Option (Int32 × AH)} (h138 : ∀ (r0 : Nat) (v1 : Int32) (v2 : Int32) (v6 : Int32) (v7 : Int32), Sm mX9_isApplicable rI 0 0 138 [some (.ref r0), some (.int v1), some (.int v2), none, none, none, some (.int v6), some (.int v7)] [] (k138 r0 v1 v2 v6 v7)) (r0 : Nat) (v1 : Int32) (v2 : Int32) (v6 : Int32) (v7 : Int32) : Sm mX9_isApplicable rI 0 0 138 [some (.ref r0), some (.int v1), some (.int v2), none, none, none, some (.int v6), some (.int v7)] [] (bX9_isApplicable_138 k138 r0 v1 v2 v6 v7) := by
  unfold bX9_isApplicable_138
  refine S_iload (pc := 138) dX9_isApplicable_138 rfl ?_
  refine S_aload_n (pc := 140) dX9_isApplicable_140 rfl ?_
  refine S_gP (pc := 141) fl_X9_22 rfl dX9_isApplicable_141 (fun a_41 => ?_)
  refine S_iconst (pc := 144) (v := (nI 5)) dX9_isApplicable_144 kI_5 ?_
  refine S_ldI (pc := 145) dX9_isApplicable_145 (fun x_42 => ?_)
  refine S_icmpge (pc := 146) (tgt := 188) dX9_isApplicable_146 (by decide) ?_ ?_
  · refine S_iload (pc := 188) dX9_isApplicable_188 rfl ?_
    exact S_zret (pc := 190) ⟨rfl, rfl⟩ rfl rfl dX9_isApplicable_190
  · refine S_iload (pc := 149) dX9_isApplicable_149 rfl ?_
    refine S_ifeq (pc := 151) (tgt := 188) dX9_isApplicable_151 (by decide) ?_ ?_
    · refine S_iload (pc := 188) dX9_isApplicable_188 rfl ?_
      exact S_zret (pc := 190) ⟨rfl, rfl⟩ rfl rfl dX9_isApplicable_190
    · refine S_aload_n (pc := 154) dX9_isApplicable_154 rfl ?_
      refine S_iload_n (pc := 155) dX9_isApplicable_155 rfl ?_
      refine S_aload_n (pc := 156) dX9_isApplicable_156 rfl ?_
      refine S_gP (pc := 157) fl_X9_22 rfl dX9_isApplicable_157 (fun a_43 => ?_)
      refine S_bipush (pc := 160) (v := (nI 6)) dX9_isApplicable_160 kB_6 ?_
      refine S_iload (pc := 162) dX9_isApplicable_162 rfl ?_
      refine S_iadd (pc := 164) dX9_isApplicable_164 ?_
      refine S_ldI (pc := 165) dX9_isApplicable_165 (fun x_44 => ?_)
      refine S_aload_n (pc := 166) dX9_isApplicable_166 rfl ?_
      refine S_iload_n (pc := 167) dX9_isApplicable_167 rfl ?_
      refine S_iload_n (pc := 168) dX9_isApplicable_168 rfl ?_
      refine S_bipush (pc := 169) (v := (nI 7)) dX9_isApplicable_169 kB_7 ?_
      refine S_iload (pc := 171) dX9_isApplicable_171 rfl ?_
      refine S_iadd (pc := 173) dX9_isApplicable_173 ?_
      refine Y_Vi (pc := 174) (st := [.int x_44, .int v1, .ref r0]) (kc' := 0) (ks' := 0) (ktX9_its r0 v1 v2 ((nI 7) + v7)) mw_X9_its mv_X9_its w1243 (RO.mk rfl rfl rfl rfl) rfl rfl rfl dX9_isApplicable_174 ⟨rfl, rfl⟩ (fun x_45 => ?_)
      refine Y_Vi (pc := 177) (st := []) (kc' := 0) (ks' := 0) (ktX9_isFit r0 v1 x_44 x_45) mw_X9_isFit mv_X9_isFit w1290 (RO.mk rfl rfl rfl rfl) rfl rfl rfl dX9_isApplicable_177 ⟨rfl, rfl⟩ (fun x_46 => ?_)
      refine Z_istore (pc := 180) (lv' := [some (.ref r0), some (.int v1), some (.int v2), none, none, none, some (.int x_46), some (.int v7)]) dX9_isApplicable_180 rfl rfl rfl ?_
      refine Z_iinc (pc := 182) (v := (nI 1)) (lv' := [some (.ref r0), some (.int v1), some (.int v2), none, none, none, some (.int x_46), some (.int (v7 + (nI 1)))]) dX9_isApplicable_182 rfl kI_1 rfl rfl rfl ?_
      refine S_goto (pc := 185) (tgt := 138) dX9_isApplicable_185 (by decide) ?_
      exact (h138 r0 v1 v2 x_46 (v7 + (nI 1)))
theorem sX9_isApplicable_138  : ∀ (n : Nat) (r0 : Nat) (v1 : Int32) (v2 : Int32) (v6 : Int32) (v7 : Int32), Sm mX9_isApplicable rI 0 0 138 [some (.ref r0), some (.int v1), some (.int v2), none, none, none, some (.int v6), some (.int v7)] [] (lX9_isApplicable_138 n r0 v1 v2 v6 v7)
  | 0, _, _, _, _, _ => S_none
  | n + 1, r0, v1, v2, v6, v7 => sbX9_isApplicable_138 (sX9_isApplicable_138 n) r0 v1 v2 v6 v7
theorem sX9_isApplicable_133  (r0 : Nat) (v1 : Int32) (v2 : Int32) (s0 : Int32) : Sm mX9_isApplicable rI 0 0 133 [some (.ref r0), some (.int v1), some (.int v2), none, none, none, none, none] [.int s0] (fX9_isApplicable_133 r0 v1 v2 s0) := by
  unfold fX9_isApplicable_133
  refine Z_istore (pc := 133) (lv' := [some (.ref r0), some (.int v1), some (.int v2), none, none, none, some (.int s0), none]) dX9_isApplicable_133 rfl rfl rfl ?_
  refine S_iconst (pc := 135) (v := (nI 0)) dX9_isApplicable_135 kI_0 ?_
  refine Z_istore (pc := 136) (lv' := [some (.ref r0), some (.int v1), some (.int v2), none, none, none, some (.int s0), some (.int (nI 0))]) dX9_isApplicable_136 rfl rfl rfl ?_
  exact (sX9_isApplicable_138 fuel r0 v1 v2 s0 (nI 0))
theorem sX9_isApplicable_132  (r0 : Nat) (v1 : Int32) (v2 : Int32) : Sm mX9_isApplicable rI 0 0 132 [some (.ref r0), some (.int v1), some (.int v2), none, none, none, none, none] [] (fX9_isApplicable_132 r0 v1 v2) := by
  unfold fX9_isApplicable_132
  refine S_iconst (pc := 132) (v := (nI 0)) dX9_isApplicable_132 kI_0 ?_
  exact (sX9_isApplicable_133 r0 v1 v2 (nI 0))
theorem sX9_isApplicable_117  (r0 : Nat) (v1 : Int32) (v2 : Int32) (v4 : Int32) : Sm mX9_isApplicable rI 0 0 117 [some (.ref r0), some (.int v1), some (.int v2), none, some (.int v4), none, none, none] [] (fX9_isApplicable_117 r0 v1 v2 v4) := by
  unfold fX9_isApplicable_117
  refine S_aload_n (pc := 117) dX9_isApplicable_117 rfl ?_
  refine S_iload_n (pc := 118) dX9_isApplicable_118 rfl ?_
  refine S_iload_n (pc := 119) dX9_isApplicable_119 rfl ?_
  refine S_iload (pc := 120) dX9_isApplicable_120 rfl ?_
  refine Y_Vi (pc := 122) (st := []) (kc' := 0) (ks' := 0) (ktX9_isHidden r0 v1 v2 v4) mw_X9_isHidden mv_X9_isHidden w1286 (RO.mk rfl rfl rfl rfl) rfl rfl rfl dX9_isApplicable_122 ⟨rfl, rfl⟩ (fun x_47 => ?_)
  refine S_ifne (pc := 125) (tgt := 132) dX9_isApplicable_125 (by decide) ?_ ?_
  · exact (S_lv (lv0 := [some (.ref r0), some (.int v1), some (.int v2), none, none, none, none, none]) (And.intro rfl (And.intro rfl (And.intro rfl trivial))) (sX9_isApplicable_132 r0 v1 v2))
  · refine S_iconst (pc := 128) (v := (nI 1)) dX9_isApplicable_128 kI_1 ?_
    refine S_goto (pc := 129) (tgt := 133) dX9_isApplicable_129 (by decide) ?_
    exact (S_lv (lv0 := [some (.ref r0), some (.int v1), some (.int v2), none, none, none, none, none]) (And.intro rfl (And.intro rfl (And.intro rfl trivial))) (sX9_isApplicable_133 r0 v1 v2 (nI 1)))
theorem sX9_isApplicable_85  (r0 : Nat) (v1 : Int32) (v2 : Int32) (v3 : Int32) (v4 : Int32) (v5 : Int32) (s0 : Int32) : Sm mX9_isApplicable rI 0 0 85 [some (.ref r0), some (.int v1), some (.int v2), some (.int v3), some (.int v4), some (.int v5), none, none] [.int s0] (fX9_isApplicable_85 r0 v1 v2 v3 v4 v5 s0) := by
  unfold fX9_isApplicable_85
  refine Z_istore (pc := 85) (lv' := [some (.ref r0), some (.int v1), some (.int v2), some (.int v3), some (.int v4), some (.int v5), some (.int s0), none]) dX9_isApplicable_85 rfl rfl rfl ?_
  refine S_iload (pc := 87) dX9_isApplicable_87 rfl ?_
  refine S_ifeq (pc := 89) (tgt := 132) dX9_isApplicable_89 (by decide) ?_ ?_
  · exact (S_lv (lv0 := [some (.ref r0), some (.int v1), some (.int v2), none, none, none, none, none]) (And.intro rfl (And.intro rfl (And.intro rfl trivial))) (sX9_isApplicable_132 r0 v1 v2))
  · refine S_aload_n (pc := 92) dX9_isApplicable_92 rfl ?_
    refine S_iload_n (pc := 93) dX9_isApplicable_93 rfl ?_
    refine S_iload_n (pc := 94) dX9_isApplicable_94 rfl ?_
    refine Y_Vi (pc := 95) (st := []) (kc' := 0) (ks' := 0) (ktX9_isStatic r0 v1 v2) mw_X9_isStatic mv_X9_isStatic w1266 (RO.mk rfl rfl rfl rfl) rfl rfl rfl dX9_isApplicable_95 ⟨rfl, rfl⟩ (fun x_48 => ?_)
    refine S_ifeq (pc := 98) (tgt := 117) dX9_isApplicable_98 (by decide) ?_ ?_
    · exact (S_lv (lv0 := [some (.ref r0), some (.int v1), some (.int v2), none, some (.int v4), none, none, none]) (And.intro rfl (And.intro rfl (And.intro rfl (And.intro rfl trivial)))) (sX9_isApplicable_117 r0 v1 v2 v4))
    · refine S_aload_n (pc := 101) dX9_isApplicable_101 rfl ?_
      refine S_iload_n (pc := 102) dX9_isApplicable_102 rfl ?_
      refine S_iload (pc := 103) dX9_isApplicable_103 rfl ?_
      refine Y_Vi (pc := 105) (st := []) (kc' := 0) (ks' := 0) (ktX9_isInterface r0 v1 v5) mw_X9_isInterface mv_X9_isInterface w1282 (RO.mk rfl rfl rfl rfl) rfl rfl rfl dX9_isApplicable_105 ⟨rfl, rfl⟩ (fun x_49 => ?_)
      refine S_ifeq (pc := 108) (tgt := 117) dX9_isApplicable_108 (by decide) ?_ ?_
      · exact (S_lv (lv0 := [some (.ref r0), some (.int v1), some (.int v2), none, some (.int v4), none, none, none]) (And.intro rfl (And.intro rfl (And.intro rfl (And.intro rfl trivial)))) (sX9_isApplicable_117 r0 v1 v2 v4))
      · refine S_iload (pc := 111) dX9_isApplicable_111 rfl ?_
        refine S_iload_n (pc := 113) dX9_isApplicable_113 rfl ?_
        refine S_icmpne (pc := 114) (tgt := 132) dX9_isApplicable_114 (by decide) ?_ ?_
        · exact (S_lv (lv0 := [some (.ref r0), some (.int v1), some (.int v2), none, none, none, none, none]) (And.intro rfl (And.intro rfl (And.intro rfl trivial))) (sX9_isApplicable_132 r0 v1 v2))
        · exact (S_lv (lv0 := [some (.ref r0), some (.int v1), some (.int v2), none, some (.int v4), none, none, none]) (And.intro rfl (And.intro rfl (And.intro rfl (And.intro rfl trivial)))) (sX9_isApplicable_117 r0 v1 v2 v4))
theorem sX9_isApplicable_84  (r0 : Nat) (v1 : Int32) (v2 : Int32) (v3 : Int32) (v4 : Int32) (v5 : Int32) : Sm mX9_isApplicable rI 0 0 84 [some (.ref r0), some (.int v1), some (.int v2), some (.int v3), some (.int v4), some (.int v5), none, none] [] (fX9_isApplicable_84 r0 v1 v2 v3 v4 v5) := by
  unfold fX9_isApplicable_84
  refine S_iconst (pc := 84) (v := (nI 0)) dX9_isApplicable_84 kI_0 ?_
  exact (sX9_isApplicable_85 r0 v1 v2 v3 v4 v5 (nI 0))
theorem sX9_isApplicable  (r0 : Nat) (v1 : Int32) (v2 : Int32) (v3 : Int32) (v4 : Int32) : Sm mX9_isApplicable rI 0 0 0 [some (.ref r0), some (.int v1), some (.int v2), some (.int v3), some (.int v4), none, none, none] [] (fX9_isApplicable r0 v1 v2 v3 v4) := by
  unfold fX9_isApplicable
  refine S_aload_n (pc := 0) dX9_isApplicable_0 rfl ?_
  refine S_iload_n (pc := 1) dX9_isApplicable_1 rfl ?_
  refine S_iload_n (pc := 2) dX9_isApplicable_2 rfl ?_
  refine S_iconst (pc := 3) (v := (nI 1)) dX9_isApplicable_3 kI_1 ?_
  refine Y_Vi (pc := 4) (st := []) (kc' := 0) (ks' := 0) (ktX9_its r0 v1 v2 (nI 1)) mw_X9_its mv_X9_its w1243 (RO.mk rfl rfl rfl rfl) rfl rfl rfl dX9_isApplicable_4 ⟨rfl, rfl⟩ (fun x_50 => ?_)
  refine Z_istore (pc := 7) (lv' := [some (.ref r0), some (.int v1), some (.int v2), some (.int v3), some (.int v4), some (.int x_50), none, none]) dX9_isApplicable_7 rfl rfl rfl ?_
  refine S_aload_n (pc := 9) dX9_isApplicable_9 rfl ?_
  refine S_iload_n (pc := 10) dX9_isApplicable_10 rfl ?_
  refine S_iload_n (pc := 11) dX9_isApplicable_11 rfl ?_
  refine Y_Vi (pc := 12) (st := []) (kc' := 0) (ks' := 0) (ktX9_isMethod r0 v1 v2) mw_X9_isMethod mv_X9_isMethod w1278 (RO.mk rfl rfl rfl rfl) rfl rfl rfl dX9_isApplicable_12 ⟨rfl, rfl⟩ (fun x_51 => ?_)
  refine S_ifeq (pc := 15) (tgt := 84) dX9_isApplicable_15 (by decide) ?_ ?_
  · exact (sX9_isApplicable_84 r0 v1 v2 v3 v4 x_50)
  · refine S_iload (pc := 18) dX9_isApplicable_18 rfl ?_
    refine S_iload (pc := 20) dX9_isApplicable_20 rfl ?_
    refine Y_Ti (pc := 22) (st := []) (kc' := 0) (ks' := 0) (ktX9_has v4 x_50) mw_X9_has w1252 w1251 (RO.mk rfl rfl rfl rfl) rfl rfl rfl dX9_isApplicable_22 ⟨rfl, rfl⟩ (fun x_52 => ?_)
    refine S_ifeq (pc := 25) (tgt := 84) dX9_isApplicable_25 (by decide) ?_ ?_
    · exact (sX9_isApplicable_84 r0 v1 v2 v3 v4 x_50)
    · refine S_aload_n (pc := 28) dX9_isApplicable_28 rfl ?_
      refine S_iload_n (pc := 29) dX9_isApplicable_29 rfl ?_
      refine S_iload_n (pc := 30) dX9_isApplicable_30 rfl ?_
      refine S_iconst (pc := 31) (v := (nI 2)) dX9_isApplicable_31 kI_2 ?_
      refine Y_Vi (pc := 32) (st := []) (kc' := 0) (ks' := 0) (ktX9_its r0 v1 v2 (nI 2)) mw_X9_its mv_X9_its w1243 (RO.mk rfl rfl rfl rfl) rfl rfl rfl dX9_isApplicable_32 ⟨rfl, rfl⟩ (fun x_53 => ?_)
      refine S_aload_n (pc := 35) dX9_isApplicable_35 rfl ?_
      refine S_gP (pc := 36) fl_X9_22 rfl dX9_isApplicable_36 (fun a_54 => ?_)
      refine S_iconst (pc := 39) (v := (nI 2)) dX9_isApplicable_39 kI_2 ?_
      refine S_ldI (pc := 40) dX9_isApplicable_40 (fun x_55 => ?_)
      refine S_icmpne (pc := 41) (tgt := 84) dX9_isApplicable_41 (by decide) ?_ ?_
      · exact (sX9_isApplicable_84 r0 v1 v2 v3 v4 x_50)
      · refine S_aload_n (pc := 44) dX9_isApplicable_44 rfl ?_
        refine S_iload_n (pc := 45) dX9_isApplicable_45 rfl ?_
        refine S_iload_n (pc := 46) dX9_isApplicable_46 rfl ?_
        refine S_bipush (pc := 47) (v := (nI 6)) dX9_isApplicable_47 kB_6 ?_
        refine Y_Vi (pc := 49) (st := []) (kc' := 0) (ks' := 0) (ktX9_its r0 v1 v2 (nI 6)) mw_X9_its mv_X9_its w1243 (RO.mk rfl rfl rfl rfl) rfl rfl rfl dX9_isApplicable_49 ⟨rfl, rfl⟩ (fun x_56 => ?_)
        refine S_aload_n (pc := 52) dX9_isApplicable_52 rfl ?_
        refine S_gP (pc := 53) fl_X9_22 rfl dX9_isApplicable_53 (fun a_57 => ?_)
        refine S_iconst (pc := 56) (v := (nI 5)) dX9_isApplicable_56 kI_5 ?_
        refine S_ldI (pc := 57) dX9_isApplicable_57 (fun x_58 => ?_)
        refine S_icmpne (pc := 58) (tgt := 84) dX9_isApplicable_58 (by decide) ?_ ?_
        · exact (sX9_isApplicable_84 r0 v1 v2 v3 v4 x_50)
        · refine S_aload_n (pc := 61) dX9_isApplicable_61 rfl ?_
          refine S_iload_n (pc := 62) dX9_isApplicable_62 rfl ?_
          refine S_iload_n (pc := 63) dX9_isApplicable_63 rfl ?_
          refine S_iconst (pc := 64) (v := (nI 3)) dX9_isApplicable_64 kI_3 ?_
          refine Y_Vi (pc := 65) (st := []) (kc' := 0) (ks' := 0) (ktX9_its r0 v1 v2 (nI 3)) mw_X9_its mv_X9_its w1243 (RO.mk rfl rfl rfl rfl) rfl rfl rfl dX9_isApplicable_65 ⟨rfl, rfl⟩ (fun x_59 => ?_)
          refine S_ifle (pc := 68) (tgt := 84) dX9_isApplicable_68 (by decide) ?_ ?_
          · exact (sX9_isApplicable_84 r0 v1 v2 v3 v4 x_50)
          · refine S_aload_n (pc := 71) dX9_isApplicable_71 rfl ?_
            refine S_iload_n (pc := 72) dX9_isApplicable_72 rfl ?_
            refine S_iload_n (pc := 73) dX9_isApplicable_73 rfl ?_
            refine Y_Vi (pc := 74) (st := []) (kc' := 0) (ks' := 0) (ktX9_isOpen r0 v1 v2) mw_X9_isOpen mv_X9_isOpen w1254 (RO.mk rfl rfl rfl rfl) rfl rfl rfl dX9_isApplicable_74 ⟨rfl, rfl⟩ (fun x_60 => ?_)
            refine S_ifeq (pc := 77) (tgt := 84) dX9_isApplicable_77 (by decide) ?_ ?_
            · exact (sX9_isApplicable_84 r0 v1 v2 v3 v4 x_50)
            · refine S_iconst (pc := 80) (v := (nI 1)) dX9_isApplicable_80 kI_1 ?_
              refine S_goto (pc := 81) (tgt := 85) dX9_isApplicable_81 (by decide) ?_
              exact (sX9_isApplicable_85 r0 v1 v2 v3 v4 x_50 (nI 1))
theorem ktX9_isApplicable (r0 : Nat) (v1 : Int32) (v2 : Int32) (v3 : Int32) (v4 : Int32) : Ct mX9_isApplicable rI [.ref r0, .int v1, .int v2, .int v3, .int v4] (fX9_isApplicable r0 v1 v2 v3 v4) := Ct.of (z := 3) pn_X9 rfl rfl rfl (sX9_isApplicable r0 v1 v2 v3 v4)
def mX9_isAbstract : MI := (yX9_isAbstract, cX9_isAbstract, 3, (some .boolean), { frames := 2, cells := 0, slots := 0, locals := 44 }, [])
theorem mw_X9_isAbstract : MW mX9_isAbstract 2 := ⟨w1297, w11, ⟨by decide, by decide⟩, by decide +kernel⟩
theorem mv_X9_isAbstract : MV mX9_isAbstract 9 := ⟨_, rfl, w1296, wp60⟩
def fX9_isAbstract  (r0 : Nat) (v1 : Int32) (v2 : Int32) : AH → Option (Int32 × AH) := fun h =>
  cv 9 r0 (fX9_its r0 v1 v2 (nI 4)) h fun x_3 h =>
  bd (fX9_has x_3 (nI 2) h) fun x_4 h =>
  rz x_4 x_4 h
theorem sX9_isAbstract  (r0 : Nat) (v1 : Int32) (v2 : Int32) : Sm mX9_isAbstract rI 0 0 0 [some (.ref r0), some (.int v1), some (.int v2)] [] (fX9_isAbstract r0 v1 v2) := by
  unfold fX9_isAbstract
  refine S_aload_n (pc := 0) dX9_isAbstract_0 rfl ?_
  refine S_iload_n (pc := 1) dX9_isAbstract_1 rfl ?_
  refine S_iload_n (pc := 2) dX9_isAbstract_2 rfl ?_
  refine S_iconst (pc := 3) (v := (nI 4)) dX9_isAbstract_3 kI_4 ?_
  refine Y_Vi (pc := 4) (st := []) (kc' := 0) (ks' := 0) (ktX9_its r0 v1 v2 (nI 4)) mw_X9_its mv_X9_its w1243 (RO.mk rfl rfl rfl rfl) rfl rfl rfl dX9_isAbstract_4 ⟨rfl, rfl⟩ (fun x_3 => ?_)
  refine S_iconst (pc := 7) (v := (nI 2)) dX9_isAbstract_7 kI_2 ?_
  refine Y_Ti (pc := 8) (st := []) (kc' := 0) (ks' := 0) (ktX9_has x_3 (nI 2)) mw_X9_has w1252 w1251 (RO.mk rfl rfl rfl rfl) rfl rfl rfl dX9_isAbstract_8 ⟨rfl, rfl⟩ (fun x_4 => ?_)
  exact S_zret (pc := 11) ⟨rfl, rfl⟩ rfl rfl dX9_isAbstract_11
theorem ktX9_isAbstract (r0 : Nat) (v1 : Int32) (v2 : Int32) : Ct mX9_isAbstract rI [.ref r0, .int v1, .int v2] (fX9_isAbstract r0 v1 v2) := Ct.of (z := 0) pn_X9 rfl rfl rfl (sX9_isAbstract r0 v1 v2)
def mX9_compiledCall : MI := (yX9_compiledCall, cX9_compiledCall, 12, (some .int), { frames := 5, cells := 0, slots := 0, locals := 124 }, [])
theorem mw_X9_compiledCall : MW mX9_compiledCall 2 := ⟨w1273, w11, ⟨by decide, by decide⟩, by decide +kernel⟩
theorem mv_X9_compiledCall : MV mX9_compiledCall 9 := ⟨_, rfl, w1272, wp54⟩
def fX9_compiledCall_56 (k13 : Nat → Int32 → Int32 → Int32 → Int32 → Int32 → AH → Option (Int32 × AH)) (r0 : Nat) (v1 : Int32) (v2 : Int32) (v3 : Int32) (v5 : Int32) (s0 : Int32) (s1 : Int32) : AH → Option (Int32 × AH) := fun h =>
  k13 r0 v1 v2 v3 (s0 + s1) (v5 + (nI 1)) h
def fX9_compiledCall_189 (k86 : Nat → Int32 → Int32 → Int32 → Int32 → Int32 → Int32 → AH → Option (Int32 × AH)) (k108 : Nat → Int32 → Int32 → Int32 → Int32 → Int32 → Int32 → Int32 → Int32 → AH → Option (Int32 × AH)) (r0 : Nat) (v1 : Int32) (v2 : Int32) (v5 : Int32) (v6 : Int32) (v7 : Int32) (v8 : Int32) (v9 : Int32) (v10 : Int32) : AH → Option (Int32 × AH) := fun h =>
  k108 r0 v1 v2 v5 v6 v7 v8 v9 (v10 + (nI 1)) h
def bX9_compiledCall_126 (k86 : Nat → Int32 → Int32 → Int32 → Int32 → Int32 → Int32 → AH → Option (Int32 × AH)) (k108 : Nat → Int32 → Int32 → Int32 → Int32 → Int32 → Int32 → Int32 → Int32 → AH → Option (Int32 × AH)) (k126 : Nat → Int32 → Int32 → Int32 → Int32 → Int32 → Int32 → Int32 → Int32 → Int32 → AH → Option (Int32 × AH)) (r0 : Nat) (v1 : Int32) (v2 : Int32) (v5 : Int32) (v6 : Int32) (v7 : Int32) (v8 : Int32) (v9 : Int32) (v10 : Int32) (v11 : Int32) : AH → Option (Int32 × AH) := fun h =>
  (gP 9 r0 15 h).bind fun a_63 =>
  (ldI a_63 (nI 5) h).bind fun x_64 =>
  if x_64 ≤ v11 then (
    fX9_compiledCall_189 k86 k108 r0 v1 v2 v5 v6 v7 v8 v9 v10 h)
  else
  if v9 = 0 then (
    fX9_compiledCall_189 k86 k108 r0 v1 v2 v5 v6 v7 v8 v9 v10 h)
  else
  (gP 9 r0 17 h).bind fun a_65 =>
  (ldZ a_65 v10 h).bind fun x_66 =>
  if x_66 = 0 then (
    fX9_compiledCall_189 k86 k108 r0 v1 v2 v5 v6 v7 v8 v9 v10 h)
  else
  cv 9 r0 (fX9_its r0 v1 v8 ((nI 7) + v11)) h fun x_67 h =>
  cv 9 r0 (fX9_its r0 v1 v10 ((nI 7) + v11)) h fun x_68 h =>
  cv 9 r0 (fX9_isFit r0 v1 x_67 x_68) h fun x_69 h =>
  k126 r0 v1 v2 v5 v6 v7 v8 x_69 v10 (v11 + (nI 1)) h
def lX9_compiledCall_126 (k86 : Nat → Int32 → Int32 → Int32 → Int32 → Int32 → Int32 → AH → Option (Int32 × AH)) (k108 : Nat → Int32 → Int32 → Int32 → Int32 → Int32 → Int32 → Int32 → Int32 → AH → Option (Int32 × AH)) : Nat → Nat → Int32 → Int32 → Int32 → Int32 → Int32 → Int32 → Int32 → Int32 → Int32 → AH → Option (Int32 × AH)
  | 0 => fun _ _ _ _ _ _ _ _ _ _ _ => none
  | n + 1 => bX9_compiledCall_126 k86 k108 (lX9_compiledCall_126 k86 k108 n)
def fX9_compiledCall_255 (k86 : Nat → Int32 → Int32 → Int32 → Int32 → Int32 → Int32 → AH → Option (Int32 × AH)) (r0 : Nat) (v1 : Int32) (v2 : Int32) (v5 : Int32) (v6 : Int32) (v7 : Int32) (v8 : Int32) : AH → Option (Int32 × AH) := fun h =>
  k86 r0 v1 v2 v5 v6 v7 (v8 + (nI 1)) h
def fX9_compiledCall_252 (k86 : Nat → Int32 → Int32 → Int32 → Int32 → Int32 → Int32 → AH → Option (Int32 × AH)) (r0 : Nat) (v1 : Int32) (v2 : Int32) (v5 : Int32) (v6 : Int32) (v8 : Int32) (s0 : Int32) (s1 : Int32) : AH → Option (Int32 × AH) := fun h =>
  fX9_compiledCall_255 k86 r0 v1 v2 v5 v6 (s0 + s1) v8 h
def fX9_compiledCall_233 (k86 : Nat → Int32 → Int32 → Int32 → Int32 → Int32 → Int32 → AH → Option (Int32 × AH)) (r0 : Nat) (v1 : Int32) (v2 : Int32) (v5 : Int32) (v7 : Int32) (v8 : Int32) (s0 : Int32) : AH → Option (Int32 × AH) := fun h =>
  cv 9 r0 (fX9_isAbstract r0 v1 v8) h fun x_70 h =>
  if x_70 = 0 then (
    fX9_compiledCall_252 k86 r0 v1 v2 v5 s0 v8 v7 (nI 1) h)
  else
  fX9_compiledCall_252 k86 r0 v1 v2 v5 s0 v8 v7 (nI 0) h
def fX9_compiledCall_214 (k86 : Nat → Int32 → Int32 → Int32 → Int32 → Int32 → Int32 → AH → Option (Int32 × AH)) (r0 : Nat) (v1 : Int32) (v2 : Int32) (v6 : Int32) (v7 : Int32) (v8 : Int32) (s0 : Int32) : AH → Option (Int32 × AH) := fun h =>
  cv 9 r0 (fX9_isAbstract r0 v1 v8) h fun x_71 h =>
  if x_71 = 0 then (
    fX9_compiledCall_233 k86 r0 v1 v2 s0 v7 v8 v8 h)
  else
  fX9_compiledCall_233 k86 r0 v1 v2 s0 v7 v8 v6 h
def fX9_compiledCall_195 (k86 : Nat → Int32 → Int32 → Int32 → Int32 → Int32 → Int32 → AH → Option (Int32 × AH)) (r0 : Nat) (v1 : Int32) (v2 : Int32) (v5 : Int32) (v6 : Int32) (v7 : Int32) (v8 : Int32) (v9 : Int32) : AH → Option (Int32 × AH) := fun h =>
  if v9 = 0 then (
    fX9_compiledCall_255 k86 r0 v1 v2 v5 v6 v7 v8 h)
  else
  if v5 = (-2 : Int32) then (
    fX9_compiledCall_214 k86 r0 v1 v2 v6 v7 v8 v8 h)
  else
  fX9_compiledCall_214 k86 r0 v1 v2 v6 v7 v8 v5 h
def bX9_compiledCall_108 (k86 : Nat → Int32 → Int32 → Int32 → Int32 → Int32 → Int32 → AH → Option (Int32 × AH)) (k108 : Nat → Int32 → Int32 → Int32 → Int32 → Int32 → Int32 → Int32 → Int32 → AH → Option (Int32 × AH)) (r0 : Nat) (v1 : Int32) (v2 : Int32) (v5 : Int32) (v6 : Int32) (v7 : Int32) (v8 : Int32) (v9 : Int32) (v10 : Int32) : AH → Option (Int32 × AH) := fun h =>
  cv 9 r0 (fX9_memberMany r0 v1) h fun x_72 h =>
  if x_72 ≤ v10 then (
    fX9_compiledCall_195 k86 r0 v1 v2 v5 v6 v7 v8 v9 h)
  else
  if v9 = 0 then (
    fX9_compiledCall_195 k86 r0 v1 v2 v5 v6 v7 v8 v9 h)
  else
  lX9_compiledCall_126 k86 k108 fuel r0 v1 v2 v5 v6 v7 v8 v9 v10 (nI 0) h
def lX9_compiledCall_108 (k86 : Nat → Int32 → Int32 → Int32 → Int32 → Int32 → Int32 → AH → Option (Int32 × AH)) : Nat → Nat → Int32 → Int32 → Int32 → Int32 → Int32 → Int32 → Int32 → Int32 → AH → Option (Int32 × AH)
  | 0 => fun _ _ _ _ _ _ _ _ _ _ => none
  | n + 1 => bX9_compiledCall_108 k86 (lX9_compiledCall_108 k86 n)
def fX9_compiledCall_319  (r0 : Nat) (v1 : Int32) (v2 : Int32) (v8 : Int32) (s0 : Nat) (s1 : Int32) (s2 : Int32) : AH → Option (Int32 × AH) := fun h =>
  (stI s0 s1 s2 h).bind fun h =>
  (gP 9 r0 16 h).bind fun a_73 =>
  cv 9 r0 (fX9_its r0 v1 v8 (nI 6)) h fun x_74 h =>
  (stI a_73 (nI 4) x_74 h).bind fun h =>
  (gP 9 r0 16 h).bind fun a_75 =>
  cv 9 r0 (fX9_its r0 v1 v8 (nI 7)) h fun x_76 h =>
  (stI a_75 (nI 5) x_76 h).bind fun h =>
  (gP 9 r0 16 h).bind fun a_77 =>
  cv 9 r0 (fX9_its r0 v1 v8 (nI 8)) h fun x_78 h =>
  (stI a_77 (nI 6) x_78 h).bind fun h =>
  (gP 9 r0 16 h).bind fun a_79 =>
  cv 9 r0 (fX9_of r0 v1 v2 (nI 1)) h fun x_80 h =>
  (stI a_79 (nI 7) x_80 h).bind fun h =>
  some ((nI 0), h)
def fX9_compiledCall_283  (r0 : Nat) (v1 : Int32) (v2 : Int32) (s0 : Int32) : AH → Option (Int32 × AH) := fun h =>
  (gP 9 r0 16 h).bind fun a_81 =>
  cv 9 r0 (fX9_its r0 v1 s0 (nI 5)) h fun x_82 h =>
  (stI a_81 (nI 2) x_82 h).bind fun h =>
  (gP 9 r0 16 h).bind fun a_83 =>
  cv 9 r0 (fX9_isStatic r0 v1 s0) h fun x_84 h =>
  if x_84 = 0 then (
    fX9_compiledCall_319 r0 v1 v2 s0 a_83 (nI 3) (nI 0) h)
  else
  fX9_compiledCall_319 r0 v1 v2 s0 a_83 (nI 3) (nI 1) h
def bX9_compiledCall_86  (k86 : Nat → Int32 → Int32 → Int32 → Int32 → Int32 → Int32 → AH → Option (Int32 × AH)) (r0 : Nat) (v1 : Int32) (v2 : Int32) (v5 : Int32) (v6 : Int32) (v7 : Int32) (v8 : Int32) : AH → Option (Int32 × AH) := fun h =>
  cv 9 r0 (fX9_memberMany r0 v1) h fun x_85 h =>
  if x_85 ≤ v8 then (
    if v5 = (-2 : Int32) then (
      some ((nI 4), h))
    else
    if v7 = (nI 1) then (
      fX9_compiledCall_283 r0 v1 v2 v6 h)
    else
    fX9_compiledCall_283 r0 v1 v2 v5 h)
  else
  (gP 9 r0 17 h).bind fun a_86 =>
  (ldZ a_86 v8 h).bind fun x_87 =>
  lX9_compiledCall_108 k86 fuel r0 v1 v2 v5 v6 v7 v8 x_87 (nI 0) h
def lX9_compiledCall_86  : Nat → Nat → Int32 → Int32 → Int32 → Int32 → Int32 → Int32 → AH → Option (Int32 × AH)
  | 0 => fun _ _ _ _ _ _ _ _ => none
  | n + 1 => bX9_compiledCall_86 (lX9_compiledCall_86 n)
def bX9_compiledCall_13  (k13 : Nat → Int32 → Int32 → Int32 → Int32 → Int32 → AH → Option (Int32 × AH)) (r0 : Nat) (v1 : Int32) (v2 : Int32) (v3 : Int32) (v4 : Int32) (v5 : Int32) : AH → Option (Int32 × AH) := fun h =>
  cv 9 r0 (fX9_memberMany r0 v1) h fun x_88 h =>
  if x_88 ≤ v5 then (
    if v4 = 0 then (
      some ((nI 3), h))
    else
    lX9_compiledCall_86 fuel r0 v1 v2 (-2 : Int32) (-2 : Int32) (nI 0) (nI 0) h)
  else
  (gP 9 r0 17 h).bind fun a_89 =>
  cv 9 r0 (fX9_isApplicable r0 v1 v5 v2 v3) h fun x_90 h =>
  (stZ a_89 v5 x_90 h).bind fun h =>
  (gP 9 r0 17 h).bind fun a_91 =>
  (ldZ a_91 v5 h).bind fun x_92 =>
  if x_92 = 0 then (
    fX9_compiledCall_56 k13 r0 v1 v2 v3 v5 v4 (nI 0) h)
  else
  fX9_compiledCall_56 k13 r0 v1 v2 v3 v5 v4 (nI 1) h
def lX9_compiledCall_13  : Nat → Nat → Int32 → Int32 → Int32 → Int32 → Int32 → AH → Option (Int32 × AH)
  | 0 => fun _ _ _ _ _ _ _ => none
  | n + 1 => bX9_compiledCall_13 (lX9_compiledCall_13 n)
def fX9_compiledCall  (r0 : Nat) (v1 : Int32) (v2 : Int32) : AH → Option (Int32 × AH) := fun h =>
  cv 9 r0 (fX9_supertypes r0 v1 v2) h fun x_93 h =>
  lX9_compiledCall_13 fuel r0 v1 v2 x_93 (nI 0) (nI 0) h
theorem sX9_compiledCall_56 {k13 : Nat → Int32 → Int32 → Int32 → Int32 → Int32 → AH → Option (Int32 × AH)} (h13 : ∀ (r0 : Nat) (v1 : Int32) (v2 : Int32) (v3 : Int32) (v4 : Int32) (v5 : Int32), Sm mX9_compiledCall rI 0 0 13 [some (.ref r0), some (.int v1), some (.int v2), some (.int v3), some (.int v4), some (.int v5), none, none, none, none, none, none] [] (k13 r0 v1 v2 v3 v4 v5)) (r0 : Nat) (v1 : Int32) (v2 : Int32) (v3 : Int32) (v5 : Int32) (s0 : Int32) (s1 : Int32) : Sm mX9_compiledCall rI 0 0 56 [some (.ref r0), some (.int v1), some (.int v2), some (.int v3), none, some (.int v5), none, none, none, none, none, none] [.int s1, .int s0] (fX9_compiledCall_56 k13 r0 v1 v2 v3 v5 s0 s1) := by
  unfold fX9_compiledCall_56
  refine S_iadd (pc := 56) dX9_compiledCall_56 ?_
  refine Z_istore (pc := 57) (lv' := [some (.ref r0), some (.int v1), some (.int v2), some (.int v3), some (.int (s0 + s1)), some (.int v5), none, none, none, none, none, none]) dX9_compiledCall_57 rfl rfl rfl ?_
  refine Z_iinc (pc := 59) (v := (nI 1)) (lv' := [some (.ref r0), some (.int v1), some (.int v2), some (.int v3), some (.int (s0 + s1)), some (.int (v5 + (nI 1))), none, none, none, none, none, none]) dX9_compiledCall_59 rfl kI_1 rfl rfl rfl ?_
  refine S_goto (pc := 62) (tgt := 13) dX9_compiledCall_62 (by decide) ?_
  exact (h13 r0 v1 v2 v3 (s0 + s1) (v5 + (nI 1)))
theorem sX9_compiledCall_189 {k86 : Nat → Int32 → Int32 → Int32 → Int32 → Int32 → Int32 → AH → Option (Int32 × AH)} (h86 : ∀ (r0 : Nat) (v1 : Int32) (v2 : Int32) (v5 : Int32) (v6 : Int32) (v7 : Int32) (v8 : Int32), Sm mX9_compiledCall rI 0 0 86 [some (.ref r0), some (.int v1), some (.int v2), none, none, some (.int v5), some (.int v6), some (.int v7), some (.int v8), none, none, none] [] (k86 r0 v1 v2 v5 v6 v7 v8)) {k108 : Nat → Int32 → Int32 → Int32 → Int32 → Int32 → Int32 → Int32 → Int32 → AH → Option (Int32 × AH)} (h108 : ∀ (r0 : Nat) (v1 : Int32) (v2 : Int32) (v5 : Int32) (v6 : Int32) (v7 : Int32) (v8 : Int32) (v9 : Int32) (v10 : Int32), Sm mX9_compiledCall rI 0 0 108 [some (.ref r0), some (.int v1), some (.int v2), none, none, some (.int v5), some (.int v6), some (.int v7), some (.int v8), some (.int v9), some (.int v10), none] [] (k108 r0 v1 v2 v5 v6 v7 v8 v9 v10)) (r0 : Nat) (v1 : Int32) (v2 : Int32) (v5 : Int32) (v6 : Int32) (v7 : Int32) (v8 : Int32) (v9 : Int32) (v10 : Int32) : Sm mX9_compiledCall rI 0 0 189 [some (.ref r0), some (.int v1), some (.int v2), none, none, some (.int v5), some (.int v6), some (.int v7), some (.int v8), some (.int v9), some (.int v10), none] [] (fX9_compiledCall_189 k86 k108 r0 v1 v2 v5 v6 v7 v8 v9 v10) := by
  unfold fX9_compiledCall_189
  refine Z_iinc (pc := 189) (v := (nI 1)) (lv' := [some (.ref r0), some (.int v1), some (.int v2), none, none, some (.int v5), some (.int v6), some (.int v7), some (.int v8), some (.int v9), some (.int (v10 + (nI 1))), none]) dX9_compiledCall_189 rfl kI_1 rfl rfl rfl ?_
  refine S_goto (pc := 192) (tgt := 108) dX9_compiledCall_192 (by decide) ?_
  exact (h108 r0 v1 v2 v5 v6 v7 v8 v9 (v10 + (nI 1)))
theorem sbX9_compiledCall_126 {k86 : Nat → Int32 → Int32 → Int32 → Int32 → Int32 → Int32 → AH → Option (Int32 × AH)} (h86 : ∀ (r0 : Nat) (v1 : Int32) (v2 : Int32) (v5 : Int32) (v6 : Int32) (v7 : Int32) (v8 : Int32), Sm mX9_compiledCall rI 0 0 86 [some (.ref r0), some (.int v1), some (.int v2), none, none, some (.int v5), some (.int v6), some (.int v7), some (.int v8), none, none, none] [] (k86 r0 v1 v2 v5 v6 v7 v8)) {k108 : Nat → Int32 → Int32 → Int32 → Int32 → Int32 → Int32 → Int32 → Int32 → AH → Option (Int32 × AH)} (h108 : ∀ (r0 : Nat) (v1 : Int32) (v2 : Int32) (v5 : Int32) (v6 : Int32) (v7 : Int32) (v8 : Int32) (v9 : Int32) (v10 : Int32), Sm mX9_compiledCall rI 0 0 108 [some (.ref r0), some (.int v1), some (.int v2), none, none, some (.int v5), some (.int v6), some (.int v7), some (.int v8), some (.int v9), some (.int v10), none] [] (k108 r0 v1 v2 v5 v6 v7 v8 v9 v10)) {k126 : Nat → Int32 → Int32 → Int32 → Int32 → Int32 → Int32 → Int32 → Int32 → Int32 → AH → Option (Int32 × AH)} (h126 : ∀ (r0 : Nat) (v1 : Int32) (v2 : Int32) (v5 : Int32) (v6 : Int32) (v7 : Int32) (v8 : Int32) (v9 : Int32) (v10 : Int32) (v11 : Int32), Sm mX9_compiledCall rI 0 0 126 [some (.ref r0), some (.int v1), some (.int v2), none, none, some (.int v5), some (.int v6), some (.int v7), some (.int v8), some (.int v9), some (.int v10), some (.int v11)] [] (k126 r0 v1 v2 v5 v6 v7 v8 v9 v10 v11)) (r0 : Nat) (v1 : Int32) (v2 : Int32) (v5 : Int32) (v6 : Int32) (v7 : Int32) (v8 : Int32) (v9 : Int32) (v10 : Int32) (v11 : Int32) : Sm mX9_compiledCall rI 0 0 126 [some (.ref r0), some (.int v1), some (.int v2), none, none, some (.int v5), some (.int v6), some (.int v7), some (.int v8), some (.int v9), some (.int v10), some (.int v11)] [] (bX9_compiledCall_126 k86 k108 k126 r0 v1 v2 v5 v6 v7 v8 v9 v10 v11) := by
  unfold bX9_compiledCall_126
  refine S_iload (pc := 126) dX9_compiledCall_126 rfl ?_
  refine S_aload_n (pc := 128) dX9_compiledCall_128 rfl ?_
  refine S_gP (pc := 129) fl_X9_22 rfl dX9_compiledCall_129 (fun a_63 => ?_)
  refine S_iconst (pc := 132) (v := (nI 5)) dX9_compiledCall_132 kI_5 ?_
  refine S_ldI (pc := 133) dX9_compiledCall_133 (fun x_64 => ?_)
  refine S_icmpge (pc := 134) (tgt := 189) dX9_compiledCall_134 (by decide) ?_ ?_
  · exact (S_lv (lv0 := [some (.ref r0), some (.int v1), some (.int v2), none, none, some (.int v5), some (.int v6), some (.int v7), some (.int v8), some (.int v9), some (.int v10), none]) (And.intro rfl (And.intro rfl (And.intro rfl (And.intro rfl (And.intro rfl (And.intro rfl (And.intro rfl (And.intro rfl (And.intro rfl trivial))))))))) (sX9_compiledCall_189 h86 h108 r0 v1 v2 v5 v6 v7 v8 v9 v10))
  · refine S_iload (pc := 137) dX9_compiledCall_137 rfl ?_
    refine S_ifeq (pc := 139) (tgt := 189) dX9_compiledCall_139 (by decide) ?_ ?_
    · exact (S_lv (lv0 := [some (.ref r0), some (.int v1), some (.int v2), none, none, some (.int v5), some (.int v6), some (.int v7), some (.int v8), some (.int v9), some (.int v10), none]) (And.intro rfl (And.intro rfl (And.intro rfl (And.intro rfl (And.intro rfl (And.intro rfl (And.intro rfl (And.intro rfl (And.intro rfl trivial))))))))) (sX9_compiledCall_189 h86 h108 r0 v1 v2 v5 v6 v7 v8 v9 v10))
    · refine S_aload_n (pc := 142) dX9_compiledCall_142 rfl ?_
      refine S_gP (pc := 143) fl_X9_28 rfl dX9_compiledCall_143 (fun a_65 => ?_)
      refine S_iload (pc := 146) dX9_compiledCall_146 rfl ?_
      refine S_ldZ (pc := 148) dX9_compiledCall_148 (fun x_66 => ?_)
      refine S_ifeq (pc := 149) (tgt := 189) dX9_compiledCall_149 (by decide) ?_ ?_
      · exact (S_lv (lv0 := [some (.ref r0), some (.int v1), some (.int v2), none, none, some (.int v5), some (.int v6), some (.int v7), some (.int v8), some (.int v9), some (.int v10), none]) (And.intro rfl (And.intro rfl (And.intro rfl (And.intro rfl (And.intro rfl (And.intro rfl (And.intro rfl (And.intro rfl (And.intro rfl trivial))))))))) (sX9_compiledCall_189 h86 h108 r0 v1 v2 v5 v6 v7 v8 v9 v10))
      · refine S_aload_n (pc := 152) dX9_compiledCall_152 rfl ?_
        refine S_iload_n (pc := 153) dX9_compiledCall_153 rfl ?_
        refine S_aload_n (pc := 154) dX9_compiledCall_154 rfl ?_
        refine S_iload_n (pc := 155) dX9_compiledCall_155 rfl ?_
        refine S_iload (pc := 156) dX9_compiledCall_156 rfl ?_
        refine S_bipush (pc := 158) (v := (nI 7)) dX9_compiledCall_158 kB_7 ?_
        refine S_iload (pc := 160) dX9_compiledCall_160 rfl ?_
        refine S_iadd (pc := 162) dX9_compiledCall_162 ?_
        refine Y_Vi (pc := 163) (st := [.int v1, .ref r0]) (kc' := 0) (ks' := 0) (ktX9_its r0 v1 v8 ((nI 7) + v11)) mw_X9_its mv_X9_its w1243 (RO.mk rfl rfl rfl rfl) rfl rfl rfl dX9_compiledCall_163 ⟨rfl, rfl⟩ (fun x_67 => ?_)
        refine S_aload_n (pc := 166) dX9_compiledCall_166 rfl ?_
        refine S_iload_n (pc := 167) dX9_compiledCall_167 rfl ?_
        refine S_iload (pc := 168) dX9_compiledCall_168 rfl ?_
        refine S_bipush (pc := 170) (v := (nI 7)) dX9_compiledCall_170 kB_7 ?_
        refine S_iload (pc := 172) dX9_compiledCall_172 rfl ?_
        refine S_iadd (pc := 174) dX9_compiledCall_174 ?_
        refine Y_Vi (pc := 175) (st := [.int x_67, .int v1, .ref r0]) (kc' := 0) (ks' := 0) (ktX9_its r0 v1 v10 ((nI 7) + v11)) mw_X9_its mv_X9_its w1243 (RO.mk rfl rfl rfl rfl) rfl rfl rfl dX9_compiledCall_175 ⟨rfl, rfl⟩ (fun x_68 => ?_)
        refine Y_Vi (pc := 178) (st := []) (kc' := 0) (ks' := 0) (ktX9_isFit r0 v1 x_67 x_68) mw_X9_isFit mv_X9_isFit w1290 (RO.mk rfl rfl rfl rfl) rfl rfl rfl dX9_compiledCall_178 ⟨rfl, rfl⟩ (fun x_69 => ?_)
        refine Z_istore (pc := 181) (lv' := [some (.ref r0), some (.int v1), some (.int v2), none, none, some (.int v5), some (.int v6), some (.int v7), some (.int v8), some (.int x_69), some (.int v10), some (.int v11)]) dX9_compiledCall_181 rfl rfl rfl ?_
        refine Z_iinc (pc := 183) (v := (nI 1)) (lv' := [some (.ref r0), some (.int v1), some (.int v2), none, none, some (.int v5), some (.int v6), some (.int v7), some (.int v8), some (.int x_69), some (.int v10), some (.int (v11 + (nI 1)))]) dX9_compiledCall_183 rfl kI_1 rfl rfl rfl ?_
        refine S_goto (pc := 186) (tgt := 126) dX9_compiledCall_186 (by decide) ?_
        exact (h126 r0 v1 v2 v5 v6 v7 v8 x_69 v10 (v11 + (nI 1)))
theorem sX9_compiledCall_126 {k86 : Nat → Int32 → Int32 → Int32 → Int32 → Int32 → Int32 → AH → Option (Int32 × AH)} (h86 : ∀ (r0 : Nat) (v1 : Int32) (v2 : Int32) (v5 : Int32) (v6 : Int32) (v7 : Int32) (v8 : Int32), Sm mX9_compiledCall rI 0 0 86 [some (.ref r0), some (.int v1), some (.int v2), none, none, some (.int v5), some (.int v6), some (.int v7), some (.int v8), none, none, none] [] (k86 r0 v1 v2 v5 v6 v7 v8)) {k108 : Nat → Int32 → Int32 → Int32 → Int32 → Int32 → Int32 → Int32 → Int32 → AH → Option (Int32 × AH)} (h108 : ∀ (r0 : Nat) (v1 : Int32) (v2 : Int32) (v5 : Int32) (v6 : Int32) (v7 : Int32) (v8 : Int32) (v9 : Int32) (v10 : Int32), Sm mX9_compiledCall rI 0 0 108 [some (.ref r0), some (.int v1), some (.int v2), none, none, some (.int v5), some (.int v6), some (.int v7), some (.int v8), some (.int v9), some (.int v10), none] [] (k108 r0 v1 v2 v5 v6 v7 v8 v9 v10)) : ∀ (n : Nat) (r0 : Nat) (v1 : Int32) (v2 : Int32) (v5 : Int32) (v6 : Int32) (v7 : Int32) (v8 : Int32) (v9 : Int32) (v10 : Int32) (v11 : Int32), Sm mX9_compiledCall rI 0 0 126 [some (.ref r0), some (.int v1), some (.int v2), none, none, some (.int v5), some (.int v6), some (.int v7), some (.int v8), some (.int v9), some (.int v10), some (.int v11)] [] (lX9_compiledCall_126 k86 k108 n r0 v1 v2 v5 v6 v7 v8 v9 v10 v11)
  | 0, _, _, _, _, _, _, _, _, _, _ => S_none
  | n + 1, r0, v1, v2, v5, v6, v7, v8, v9, v10, v11 => sbX9_compiledCall_126 h86 h108 (sX9_compiledCall_126 h86 h108 n) r0 v1 v2 v5 v6 v7 v8 v9 v10 v11
theorem sX9_compiledCall_255 {k86 : Nat → Int32 → Int32 → Int32 → Int32 → Int32 → Int32 → AH → Option (Int32 × AH)} (h86 : ∀ (r0 : Nat) (v1 : Int32) (v2 : Int32) (v5 : Int32) (v6 : Int32) (v7 : Int32) (v8 : Int32), Sm mX9_compiledCall rI 0 0 86 [some (.ref r0), some (.int v1), some (.int v2), none, none, some (.int v5), some (.int v6), some (.int v7), some (.int v8), none, none, none] [] (k86 r0 v1 v2 v5 v6 v7 v8)) (r0 : Nat) (v1 : Int32) (v2 : Int32) (v5 : Int32) (v6 : Int32) (v7 : Int32) (v8 : Int32) : Sm mX9_compiledCall rI 0 0 255 [some (.ref r0), some (.int v1), some (.int v2), none, none, some (.int v5), some (.int v6), some (.int v7), some (.int v8), none, none, none] [] (fX9_compiledCall_255 k86 r0 v1 v2 v5 v6 v7 v8) := by
  unfold fX9_compiledCall_255
  refine Z_iinc (pc := 255) (v := (nI 1)) (lv' := [some (.ref r0), some (.int v1), some (.int v2), none, none, some (.int v5), some (.int v6), some (.int v7), some (.int (v8 + (nI 1))), none, none, none]) dX9_compiledCall_255 rfl kI_1 rfl rfl rfl ?_
  refine S_goto (pc := 258) (tgt := 86) dX9_compiledCall_258 (by decide) ?_
  exact (h86 r0 v1 v2 v5 v6 v7 (v8 + (nI 1)))
theorem sX9_compiledCall_252 {k86 : Nat → Int32 → Int32 → Int32 → Int32 → Int32 → Int32 → AH → Option (Int32 × AH)} (h86 : ∀ (r0 : Nat) (v1 : Int32) (v2 : Int32) (v5 : Int32) (v6 : Int32) (v7 : Int32) (v8 : Int32), Sm mX9_compiledCall rI 0 0 86 [some (.ref r0), some (.int v1), some (.int v2), none, none, some (.int v5), some (.int v6), some (.int v7), some (.int v8), none, none, none] [] (k86 r0 v1 v2 v5 v6 v7 v8)) (r0 : Nat) (v1 : Int32) (v2 : Int32) (v5 : Int32) (v6 : Int32) (v8 : Int32) (s0 : Int32) (s1 : Int32) : Sm mX9_compiledCall rI 0 0 252 [some (.ref r0), some (.int v1), some (.int v2), none, none, some (.int v5), some (.int v6), none, some (.int v8), none, none, none] [.int s1, .int s0] (fX9_compiledCall_252 k86 r0 v1 v2 v5 v6 v8 s0 s1) := by
  unfold fX9_compiledCall_252
  refine S_iadd (pc := 252) dX9_compiledCall_252 ?_
  refine Z_istore (pc := 253) (lv' := [some (.ref r0), some (.int v1), some (.int v2), none, none, some (.int v5), some (.int v6), some (.int (s0 + s1)), some (.int v8), none, none, none]) dX9_compiledCall_253 rfl rfl rfl ?_
  exact (sX9_compiledCall_255 h86 r0 v1 v2 v5 v6 (s0 + s1) v8)
theorem sX9_compiledCall_233 {k86 : Nat → Int32 → Int32 → Int32 → Int32 → Int32 → Int32 → AH → Option (Int32 × AH)} (h86 : ∀ (r0 : Nat) (v1 : Int32) (v2 : Int32) (v5 : Int32) (v6 : Int32) (v7 : Int32) (v8 : Int32), Sm mX9_compiledCall rI 0 0 86 [some (.ref r0), some (.int v1), some (.int v2), none, none, some (.int v5), some (.int v6), some (.int v7), some (.int v8), none, none, none] [] (k86 r0 v1 v2 v5 v6 v7 v8)) (r0 : Nat) (v1 : Int32) (v2 : Int32) (v5 : Int32) (v7 : Int32) (v8 : Int32) (s0 : Int32) : Sm mX9_compiledCall rI 0 0 233 [some (.ref r0), some (.int v1), some (.int v2), none, none, some (.int v5), none, some (.int v7), some (.int v8), none, none, none] [.int s0] (fX9_compiledCall_233 k86 r0 v1 v2 v5 v7 v8 s0) := by
  unfold fX9_compiledCall_233
  refine Z_istore (pc := 233) (lv' := [some (.ref r0), some (.int v1), some (.int v2), none, none, some (.int v5), some (.int s0), some (.int v7), some (.int v8), none, none, none]) dX9_compiledCall_233 rfl rfl rfl ?_
  refine S_iload (pc := 235) dX9_compiledCall_235 rfl ?_
  refine S_aload_n (pc := 237) dX9_compiledCall_237 rfl ?_
  refine S_iload_n (pc := 238) dX9_compiledCall_238 rfl ?_
  refine S_iload (pc := 239) dX9_compiledCall_239 rfl ?_
  refine Y_Vi (pc := 241) (st := [.int v7]) (kc' := 0) (ks' := 0) (ktX9_isAbstract r0 v1 v8) mw_X9_isAbstract mv_X9_isAbstract w1294 (RO.mk rfl rfl rfl rfl) rfl rfl rfl dX9_compiledCall_241 ⟨rfl, rfl⟩ (fun x_70 => ?_)
  refine S_ifeq (pc := 244) (tgt := 251) dX9_compiledCall_244 (by decide) ?_ ?_
  · refine S_iconst (pc := 251) (v := (nI 1)) dX9_compiledCall_251 kI_1 ?_
    exact (S_lv (lv0 := [some (.ref r0), some (.int v1), some (.int v2), none, none, some (.int v5), some (.int s0), none, some (.int v8), none, none, none]) (And.intro rfl (And.intro rfl (And.intro rfl (And.intro rfl (And.intro rfl (And.intro rfl trivial)))))) (sX9_compiledCall_252 h86 r0 v1 v2 v5 s0 v8 v7 (nI 1)))
  · refine S_iconst (pc := 247) (v := (nI 0)) dX9_compiledCall_247 kI_0 ?_
    refine S_goto (pc := 248) (tgt := 252) dX9_compiledCall_248 (by decide) ?_
    exact (S_lv (lv0 := [some (.ref r0), some (.int v1), some (.int v2), none, none, some (.int v5), some (.int s0), none, some (.int v8), none, none, none]) (And.intro rfl (And.intro rfl (And.intro rfl (And.intro rfl (And.intro rfl (And.intro rfl trivial)))))) (sX9_compiledCall_252 h86 r0 v1 v2 v5 s0 v8 v7 (nI 0)))
theorem sX9_compiledCall_214 {k86 : Nat → Int32 → Int32 → Int32 → Int32 → Int32 → Int32 → AH → Option (Int32 × AH)} (h86 : ∀ (r0 : Nat) (v1 : Int32) (v2 : Int32) (v5 : Int32) (v6 : Int32) (v7 : Int32) (v8 : Int32), Sm mX9_compiledCall rI 0 0 86 [some (.ref r0), some (.int v1), some (.int v2), none, none, some (.int v5), some (.int v6), some (.int v7), some (.int v8), none, none, none] [] (k86 r0 v1 v2 v5 v6 v7 v8)) (r0 : Nat) (v1 : Int32) (v2 : Int32) (v6 : Int32) (v7 : Int32) (v8 : Int32) (s0 : Int32) : Sm mX9_compiledCall rI 0 0 214 [some (.ref r0), some (.int v1), some (.int v2), none, none, none, some (.int v6), some (.int v7), some (.int v8), none, none, none] [.int s0] (fX9_compiledCall_214 k86 r0 v1 v2 v6 v7 v8 s0) := by
  unfold fX9_compiledCall_214
  refine Z_istore (pc := 214) (lv' := [some (.ref r0), some (.int v1), some (.int v2), none, none, some (.int s0), some (.int v6), some (.int v7), some (.int v8), none, none, none]) dX9_compiledCall_214 rfl rfl rfl ?_
  refine S_aload_n (pc := 216) dX9_compiledCall_216 rfl ?_
  refine S_iload_n (pc := 217) dX9_compiledCall_217 rfl ?_
  refine S_iload (pc := 218) dX9_compiledCall_218 rfl ?_
  refine Y_Vi (pc := 220) (st := []) (kc' := 0) (ks' := 0) (ktX9_isAbstract r0 v1 v8) mw_X9_isAbstract mv_X9_isAbstract w1294 (RO.mk rfl rfl rfl rfl) rfl rfl rfl dX9_compiledCall_220 ⟨rfl, rfl⟩ (fun x_71 => ?_)
  refine S_ifeq (pc := 223) (tgt := 231) dX9_compiledCall_223 (by decide) ?_ ?_
  · refine S_iload (pc := 231) dX9_compiledCall_231 rfl ?_
    exact (S_lv (lv0 := [some (.ref r0), some (.int v1), some (.int v2), none, none, some (.int s0), none, some (.int v7), some (.int v8), none, none, none]) (And.intro rfl (And.intro rfl (And.intro rfl (And.intro rfl (And.intro rfl (And.intro rfl trivial)))))) (sX9_compiledCall_233 h86 r0 v1 v2 s0 v7 v8 v8))
  · refine S_iload (pc := 226) dX9_compiledCall_226 rfl ?_
    refine S_goto (pc := 228) (tgt := 233) dX9_compiledCall_228 (by decide) ?_
    exact (S_lv (lv0 := [some (.ref r0), some (.int v1), some (.int v2), none, none, some (.int s0), none, some (.int v7), some (.int v8), none, none, none]) (And.intro rfl (And.intro rfl (And.intro rfl (And.intro rfl (And.intro rfl (And.intro rfl trivial)))))) (sX9_compiledCall_233 h86 r0 v1 v2 s0 v7 v8 v6))
theorem sX9_compiledCall_195 {k86 : Nat → Int32 → Int32 → Int32 → Int32 → Int32 → Int32 → AH → Option (Int32 × AH)} (h86 : ∀ (r0 : Nat) (v1 : Int32) (v2 : Int32) (v5 : Int32) (v6 : Int32) (v7 : Int32) (v8 : Int32), Sm mX9_compiledCall rI 0 0 86 [some (.ref r0), some (.int v1), some (.int v2), none, none, some (.int v5), some (.int v6), some (.int v7), some (.int v8), none, none, none] [] (k86 r0 v1 v2 v5 v6 v7 v8)) (r0 : Nat) (v1 : Int32) (v2 : Int32) (v5 : Int32) (v6 : Int32) (v7 : Int32) (v8 : Int32) (v9 : Int32) : Sm mX9_compiledCall rI 0 0 195 [some (.ref r0), some (.int v1), some (.int v2), none, none, some (.int v5), some (.int v6), some (.int v7), some (.int v8), some (.int v9), none, none] [] (fX9_compiledCall_195 k86 r0 v1 v2 v5 v6 v7 v8 v9) := by
  unfold fX9_compiledCall_195
  refine S_iload (pc := 195) dX9_compiledCall_195 rfl ?_
  refine S_ifeq (pc := 197) (tgt := 255) dX9_compiledCall_197 (by decide) ?_ ?_
  · exact (S_lv (lv0 := [some (.ref r0), some (.int v1), some (.int v2), none, none, some (.int v5), some (.int v6), some (.int v7), some (.int v8), none, none, none]) (And.intro rfl (And.intro rfl (And.intro rfl (And.intro rfl (And.intro rfl (And.intro rfl (And.intro rfl trivial))))))) (sX9_compiledCall_255 h86 r0 v1 v2 v5 v6 v7 v8))
  · refine S_iload (pc := 200) dX9_compiledCall_200 rfl ?_
    refine S_bipush (pc := 202) (v := (-2 : Int32)) dX9_compiledCall_202 kB_m2 ?_
    refine S_icmpne (pc := 204) (tgt := 212) dX9_compiledCall_204 (by decide) ?_ ?_
    · refine S_iload (pc := 212) dX9_compiledCall_212 rfl ?_
      exact (S_lv (lv0 := [some (.ref r0), some (.int v1), some (.int v2), none, none, none, some (.int v6), some (.int v7), some (.int v8), none, none, none]) (And.intro rfl (And.intro rfl (And.intro rfl (And.intro rfl (And.intro rfl (And.intro rfl trivial)))))) (sX9_compiledCall_214 h86 r0 v1 v2 v6 v7 v8 v5))
    · refine S_iload (pc := 207) dX9_compiledCall_207 rfl ?_
      refine S_goto (pc := 209) (tgt := 214) dX9_compiledCall_209 (by decide) ?_
      exact (S_lv (lv0 := [some (.ref r0), some (.int v1), some (.int v2), none, none, none, some (.int v6), some (.int v7), some (.int v8), none, none, none]) (And.intro rfl (And.intro rfl (And.intro rfl (And.intro rfl (And.intro rfl (And.intro rfl trivial)))))) (sX9_compiledCall_214 h86 r0 v1 v2 v6 v7 v8 v8))
theorem sbX9_compiledCall_108 {k86 : Nat → Int32 → Int32 → Int32 → Int32 → Int32 → Int32 → AH → Option (Int32 × AH)} (h86 : ∀ (r0 : Nat) (v1 : Int32) (v2 : Int32) (v5 : Int32) (v6 : Int32) (v7 : Int32) (v8 : Int32), Sm mX9_compiledCall rI 0 0 86 [some (.ref r0), some (.int v1), some (.int v2), none, none, some (.int v5), some (.int v6), some (.int v7), some (.int v8), none, none, none] [] (k86 r0 v1 v2 v5 v6 v7 v8)) {k108 : Nat → Int32 → Int32 → Int32 → Int32 → Int32 → Int32 → Int32 → Int32 → AH → Option (Int32 × AH)} (h108 : ∀ (r0 : Nat) (v1 : Int32) (v2 : Int32) (v5 : Int32) (v6 : Int32) (v7 : Int32) (v8 : Int32) (v9 : Int32) (v10 : Int32), Sm mX9_compiledCall rI 0 0 108 [some (.ref r0), some (.int v1), some (.int v2), none, none, some (.int v5), some (.int v6), some (.int v7), some (.int v8), some (.int v9), some (.int v10), none] [] (k108 r0 v1 v2 v5 v6 v7 v8 v9 v10)) (r0 : Nat) (v1 : Int32) (v2 : Int32) (v5 : Int32) (v6 : Int32) (v7 : Int32) (v8 : Int32) (v9 : Int32) (v10 : Int32) : Sm mX9_compiledCall rI 0 0 108 [some (.ref r0), some (.int v1), some (.int v2), none, none, some (.int v5), some (.int v6), some (.int v7), some (.int v8), some (.int v9), some (.int v10), none] [] (bX9_compiledCall_108 k86 k108 r0 v1 v2 v5 v6 v7 v8 v9 v10) := by
  unfold bX9_compiledCall_108
  refine S_iload (pc := 108) dX9_compiledCall_108 rfl ?_
  refine S_aload_n (pc := 110) dX9_compiledCall_110 rfl ?_
  refine S_iload_n (pc := 111) dX9_compiledCall_111 rfl ?_
  refine Y_Vi (pc := 112) (st := [.int v10]) (kc' := 0) (ks' := 0) (ktX9_memberMany r0 v1) mw_X9_memberMany mv_X9_memberMany w1186 (RO.mk rfl rfl rfl rfl) rfl rfl rfl dX9_compiledCall_112 ⟨rfl, rfl⟩ (fun x_72 => ?_)
  refine S_icmpge (pc := 115) (tgt := 195) dX9_compiledCall_115 (by decide) ?_ ?_
  · exact (S_lv (lv0 := [some (.ref r0), some (.int v1), some (.int v2), none, none, some (.int v5), some (.int v6), some (.int v7), some (.int v8), some (.int v9), none, none]) (And.intro rfl (And.intro rfl (And.intro rfl (And.intro rfl (And.intro rfl (And.intro rfl (And.intro rfl (And.intro rfl trivial)))))))) (sX9_compiledCall_195 h86 r0 v1 v2 v5 v6 v7 v8 v9))
  · refine S_iload (pc := 118) dX9_compiledCall_118 rfl ?_
    refine S_ifeq (pc := 120) (tgt := 195) dX9_compiledCall_120 (by decide) ?_ ?_
    · exact (S_lv (lv0 := [some (.ref r0), some (.int v1), some (.int v2), none, none, some (.int v5), some (.int v6), some (.int v7), some (.int v8), some (.int v9), none, none]) (And.intro rfl (And.intro rfl (And.intro rfl (And.intro rfl (And.intro rfl (And.intro rfl (And.intro rfl (And.intro rfl trivial)))))))) (sX9_compiledCall_195 h86 r0 v1 v2 v5 v6 v7 v8 v9))
    · refine S_iconst (pc := 123) (v := (nI 0)) dX9_compiledCall_123 kI_0 ?_
      refine Z_istore (pc := 124) (lv' := [some (.ref r0), some (.int v1), some (.int v2), none, none, some (.int v5), some (.int v6), some (.int v7), some (.int v8), some (.int v9), some (.int v10), some (.int (nI 0))]) dX9_compiledCall_124 rfl rfl rfl ?_
      exact (sX9_compiledCall_126 h86 h108 fuel r0 v1 v2 v5 v6 v7 v8 v9 v10 (nI 0))
theorem sX9_compiledCall_108 {k86 : Nat → Int32 → Int32 → Int32 → Int32 → Int32 → Int32 → AH → Option (Int32 × AH)} (h86 : ∀ (r0 : Nat) (v1 : Int32) (v2 : Int32) (v5 : Int32) (v6 : Int32) (v7 : Int32) (v8 : Int32), Sm mX9_compiledCall rI 0 0 86 [some (.ref r0), some (.int v1), some (.int v2), none, none, some (.int v5), some (.int v6), some (.int v7), some (.int v8), none, none, none] [] (k86 r0 v1 v2 v5 v6 v7 v8)) : ∀ (n : Nat) (r0 : Nat) (v1 : Int32) (v2 : Int32) (v5 : Int32) (v6 : Int32) (v7 : Int32) (v8 : Int32) (v9 : Int32) (v10 : Int32), Sm mX9_compiledCall rI 0 0 108 [some (.ref r0), some (.int v1), some (.int v2), none, none, some (.int v5), some (.int v6), some (.int v7), some (.int v8), some (.int v9), some (.int v10), none] [] (lX9_compiledCall_108 k86 n r0 v1 v2 v5 v6 v7 v8 v9 v10)
  | 0, _, _, _, _, _, _, _, _, _ => S_none
  | n + 1, r0, v1, v2, v5, v6, v7, v8, v9, v10 => sbX9_compiledCall_108 h86 (sX9_compiledCall_108 h86 n) r0 v1 v2 v5 v6 v7 v8 v9 v10
theorem sX9_compiledCall_319  (r0 : Nat) (v1 : Int32) (v2 : Int32) (v8 : Int32) (s0 : Nat) (s1 : Int32) (s2 : Int32) : Sm mX9_compiledCall rI 0 0 319 [some (.ref r0), some (.int v1), some (.int v2), none, none, none, none, none, some (.int v8), none, none, none] [.int s2, .int s1, .ref s0] (fX9_compiledCall_319 r0 v1 v2 v8 s0 s1 s2) := by
  unfold fX9_compiledCall_319
  refine S_stI (pc := 319) dX9_compiledCall_319 ?_
  refine S_aload_n (pc := 320) dX9_compiledCall_320 rfl ?_
  refine S_gP (pc := 321) fl_X9_25 rfl dX9_compiledCall_321 (fun a_73 => ?_)
  refine S_iconst (pc := 324) (v := (nI 4)) dX9_compiledCall_324 kI_4 ?_
  refine S_aload_n (pc := 325) dX9_compiledCall_325 rfl ?_
  refine S_iload_n (pc := 326) dX9_compiledCall_326 rfl ?_
  refine S_iload (pc := 327) dX9_compiledCall_327 rfl ?_
  refine S_bipush (pc := 329) (v := (nI 6)) dX9_compiledCall_329 kB_6 ?_
  refine Y_Vi (pc := 331) (st := [.int (nI 4), .ref a_73]) (kc' := 0) (ks' := 0) (ktX9_its r0 v1 v8 (nI 6)) mw_X9_its mv_X9_its w1243 (RO.mk rfl rfl rfl rfl) rfl rfl rfl dX9_compiledCall_331 ⟨rfl, rfl⟩ (fun x_74 => ?_)
  refine S_stI (pc := 334) dX9_compiledCall_334 ?_
  refine S_aload_n (pc := 335) dX9_compiledCall_335 rfl ?_
  refine S_gP (pc := 336) fl_X9_25 rfl dX9_compiledCall_336 (fun a_75 => ?_)
  refine S_iconst (pc := 339) (v := (nI 5)) dX9_compiledCall_339 kI_5 ?_
  refine S_aload_n (pc := 340) dX9_compiledCall_340 rfl ?_
  refine S_iload_n (pc := 341) dX9_compiledCall_341 rfl ?_
  refine S_iload (pc := 342) dX9_compiledCall_342 rfl ?_
  refine S_bipush (pc := 344) (v := (nI 7)) dX9_compiledCall_344 kB_7 ?_
  refine Y_Vi (pc := 346) (st := [.int (nI 5), .ref a_75]) (kc' := 0) (ks' := 0) (ktX9_its r0 v1 v8 (nI 7)) mw_X9_its mv_X9_its w1243 (RO.mk rfl rfl rfl rfl) rfl rfl rfl dX9_compiledCall_346 ⟨rfl, rfl⟩ (fun x_76 => ?_)
  refine S_stI (pc := 349) dX9_compiledCall_349 ?_
  refine S_aload_n (pc := 350) dX9_compiledCall_350 rfl ?_
  refine S_gP (pc := 351) fl_X9_25 rfl dX9_compiledCall_351 (fun a_77 => ?_)
  refine S_bipush (pc := 354) (v := (nI 6)) dX9_compiledCall_354 kB_6 ?_
  refine S_aload_n (pc := 356) dX9_compiledCall_356 rfl ?_
  refine S_iload_n (pc := 357) dX9_compiledCall_357 rfl ?_
  refine S_iload (pc := 358) dX9_compiledCall_358 rfl ?_
  refine S_bipush (pc := 360) (v := (nI 8)) dX9_compiledCall_360 kB_8 ?_
  refine Y_Vi (pc := 362) (st := [.int (nI 6), .ref a_77]) (kc' := 0) (ks' := 0) (ktX9_its r0 v1 v8 (nI 8)) mw_X9_its mv_X9_its w1243 (RO.mk rfl rfl rfl rfl) rfl rfl rfl dX9_compiledCall_362 ⟨rfl, rfl⟩ (fun x_78 => ?_)
  refine S_stI (pc := 365) dX9_compiledCall_365 ?_
  refine S_aload_n (pc := 366) dX9_compiledCall_366 rfl ?_
  refine S_gP (pc := 367) fl_X9_25 rfl dX9_compiledCall_367 (fun a_79 => ?_)
  refine S_bipush (pc := 370) (v := (nI 7)) dX9_compiledCall_370 kB_7 ?_
  refine S_aload_n (pc := 372) dX9_compiledCall_372 rfl ?_
  refine S_iload_n (pc := 373) dX9_compiledCall_373 rfl ?_
  refine S_iload_n (pc := 374) dX9_compiledCall_374 rfl ?_
  refine S_iconst (pc := 375) (v := (nI 1)) dX9_compiledCall_375 kI_1 ?_
  refine Y_Vi (pc := 376) (st := [.int (nI 7), .ref a_79]) (kc' := 0) (ks' := 0) (ktX9_of r0 v1 v2 (nI 1)) mw_X9_of mv_X9_of w1219 (RO.mk rfl rfl rfl rfl) rfl rfl rfl dX9_compiledCall_376 ⟨rfl, rfl⟩ (fun x_80 => ?_)
  refine S_stI (pc := 379) dX9_compiledCall_379 ?_
  refine S_iconst (pc := 380) (v := (nI 0)) dX9_compiledCall_380 kI_0 ?_
  exact S_iret (pc := 381) ⟨rfl, rfl⟩ rfl rfl dX9_compiledCall_381
theorem sX9_compiledCall_283  (r0 : Nat) (v1 : Int32) (v2 : Int32) (s0 : Int32) : Sm mX9_compiledCall rI 0 0 283 [some (.ref r0), some (.int v1), some (.int v2), none, none, none, none, none, none, none, none, none] [.int s0] (fX9_compiledCall_283 r0 v1 v2 s0) := by
  unfold fX9_compiledCall_283
  refine Z_istore (pc := 283) (lv' := [some (.ref r0), some (.int v1), some (.int v2), none, none, none, none, none, some (.int s0), none, none, none]) dX9_compiledCall_283 rfl rfl rfl ?_
  refine S_aload_n (pc := 285) dX9_compiledCall_285 rfl ?_
  refine S_gP (pc := 286) fl_X9_25 rfl dX9_compiledCall_286 (fun a_81 => ?_)
  refine S_iconst (pc := 289) (v := (nI 2)) dX9_compiledCall_289 kI_2 ?_
  refine S_aload_n (pc := 290) dX9_compiledCall_290 rfl ?_
  refine S_iload_n (pc := 291) dX9_compiledCall_291 rfl ?_
  refine S_iload (pc := 292) dX9_compiledCall_292 rfl ?_
  refine S_iconst (pc := 294) (v := (nI 5)) dX9_compiledCall_294 kI_5 ?_
  refine Y_Vi (pc := 295) (st := [.int (nI 2), .ref a_81]) (kc' := 0) (ks' := 0) (ktX9_its r0 v1 s0 (nI 5)) mw_X9_its mv_X9_its w1243 (RO.mk rfl rfl rfl rfl) rfl rfl rfl dX9_compiledCall_295 ⟨rfl, rfl⟩ (fun x_82 => ?_)
  refine S_stI (pc := 298) dX9_compiledCall_298 ?_
  refine S_aload_n (pc := 299) dX9_compiledCall_299 rfl ?_
  refine S_gP (pc := 300) fl_X9_25 rfl dX9_compiledCall_300 (fun a_83 => ?_)
  refine S_iconst (pc := 303) (v := (nI 3)) dX9_compiledCall_303 kI_3 ?_
  refine S_aload_n (pc := 304) dX9_compiledCall_304 rfl ?_
  refine S_iload_n (pc := 305) dX9_compiledCall_305 rfl ?_
  refine S_iload (pc := 306) dX9_compiledCall_306 rfl ?_
  refine Y_Vi (pc := 308) (st := [.int (nI 3), .ref a_83]) (kc' := 0) (ks' := 0) (ktX9_isStatic r0 v1 s0) mw_X9_isStatic mv_X9_isStatic w1266 (RO.mk rfl rfl rfl rfl) rfl rfl rfl dX9_compiledCall_308 ⟨rfl, rfl⟩ (fun x_84 => ?_)
  refine S_ifeq (pc := 311) (tgt := 318) dX9_compiledCall_311 (by decide) ?_ ?_
  · refine S_iconst (pc := 318) (v := (nI 0)) dX9_compiledCall_318 kI_0 ?_
    exact (sX9_compiledCall_319 r0 v1 v2 s0 a_83 (nI 3) (nI 0))
  · refine S_iconst (pc := 314) (v := (nI 1)) dX9_compiledCall_314 kI_1 ?_
    refine S_goto (pc := 315) (tgt := 319) dX9_compiledCall_315 (by decide) ?_
    exact (sX9_compiledCall_319 r0 v1 v2 s0 a_83 (nI 3) (nI 1))
theorem sbX9_compiledCall_86  {k86 : Nat → Int32 → Int32 → Int32 → Int32 → Int32 → Int32 → AH → Option (Int32 × AH)} (h86 : ∀ (r0 : Nat) (v1 : Int32) (v2 : Int32) (v5 : Int32) (v6 : Int32) (v7 : Int32) (v8 : Int32), Sm mX9_compiledCall rI 0 0 86 [some (.ref r0), some (.int v1), some (.int v2), none, none, some (.int v5), some (.int v6), some (.int v7), some (.int v8), none, none, none] [] (k86 r0 v1 v2 v5 v6 v7 v8)) (r0 : Nat) (v1 : Int32) (v2 : Int32) (v5 : Int32) (v6 : Int32) (v7 : Int32) (v8 : Int32) : Sm mX9_compiledCall rI 0 0 86 [some (.ref r0), some (.int v1), some (.int v2), none, none, some (.int v5), some (.int v6), some (.int v7), some (.int v8), none, none, none] [] (bX9_compiledCall_86 k86 r0 v1 v2 v5 v6 v7 v8) := by
  unfold bX9_compiledCall_86
  refine S_iload (pc := 86) dX9_compiledCall_86 rfl ?_
  refine S_aload_n (pc := 88) dX9_compiledCall_88 rfl ?_
  refine S_iload_n (pc := 89) dX9_compiledCall_89 rfl ?_
  refine Y_Vi (pc := 90) (st := [.int v8]) (kc' := 0) (ks' := 0) (ktX9_memberMany r0 v1) mw_X9_memberMany mv_X9_memberMany w1186 (RO.mk rfl rfl rfl rfl) rfl rfl rfl dX9_compiledCall_90 ⟨rfl, rfl⟩ (fun x_85 => ?_)
  refine S_icmpge (pc := 93) (tgt := 261) dX9_compiledCall_93 (by decide) ?_ ?_
  · refine S_iload (pc := 261) dX9_compiledCall_261 rfl ?_
    refine S_bipush (pc := 263) (v := (-2 : Int32)) dX9_compiledCall_263 kB_m2 ?_
    refine S_icmpne (pc := 265) (tgt := 270) dX9_compiledCall_265 (by decide) ?_ ?_
    · refine S_iload (pc := 270) dX9_compiledCall_270 rfl ?_
      refine S_iconst (pc := 272) (v := (nI 1)) dX9_compiledCall_272 kI_1 ?_
      refine S_icmpne (pc := 273) (tgt := 281) dX9_compiledCall_273 (by decide) ?_ ?_
      · refine S_iload (pc := 281) dX9_compiledCall_281 rfl ?_
        exact (S_lv (lv0 := [some (.ref r0), some (.int v1), some (.int v2), none, none, none, none, none, none, none, none, none]) (And.intro rfl (And.intro rfl (And.intro rfl trivial))) (sX9_compiledCall_283 r0 v1 v2 v5))
      · refine S_iload (pc := 276) dX9_compiledCall_276 rfl ?_
        refine S_goto (pc := 278) (tgt := 283) dX9_compiledCall_278 (by decide) ?_
        exact (S_lv (lv0 := [some (.ref r0), some (.int v1), some (.int v2), none, none, none, none, none, none, none, none, none]) (And.intro rfl (And.intro rfl (And.intro rfl trivial))) (sX9_compiledCall_283 r0 v1 v2 v6))
    · refine S_iconst (pc := 268) (v := (nI 4)) dX9_compiledCall_268 kI_4 ?_
      exact S_iret (pc := 269) ⟨rfl, rfl⟩ rfl rfl dX9_compiledCall_269
  · refine S_aload_n (pc := 96) dX9_compiledCall_96 rfl ?_
    refine S_gP (pc := 97) fl_X9_28 rfl dX9_compiledCall_97 (fun a_86 => ?_)
    refine S_iload (pc := 100) dX9_compiledCall_100 rfl ?_
    refine S_ldZ (pc := 102) dX9_compiledCall_102 (fun x_87 => ?_)
    refine Z_istore (pc := 103) (lv' := [some (.ref r0), some (.int v1), some (.int v2), none, none, some (.int v5), some (.int v6), some (.int v7), some (.int v8), some (.int x_87), none, none]) dX9_compiledCall_103 rfl rfl rfl ?_
    refine S_iconst (pc := 105) (v := (nI 0)) dX9_compiledCall_105 kI_0 ?_
    refine Z_istore (pc := 106) (lv' := [some (.ref r0), some (.int v1), some (.int v2), none, none, some (.int v5), some (.int v6), some (.int v7), some (.int v8), some (.int x_87), some (.int (nI 0)), none]) dX9_compiledCall_106 rfl rfl rfl ?_
    exact (sX9_compiledCall_108 h86 fuel r0 v1 v2 v5 v6 v7 v8 x_87 (nI 0))
theorem sX9_compiledCall_86  : ∀ (n : Nat) (r0 : Nat) (v1 : Int32) (v2 : Int32) (v5 : Int32) (v6 : Int32) (v7 : Int32) (v8 : Int32), Sm mX9_compiledCall rI 0 0 86 [some (.ref r0), some (.int v1), some (.int v2), none, none, some (.int v5), some (.int v6), some (.int v7), some (.int v8), none, none, none] [] (lX9_compiledCall_86 n r0 v1 v2 v5 v6 v7 v8)
  | 0, _, _, _, _, _, _, _ => S_none
  | n + 1, r0, v1, v2, v5, v6, v7, v8 => sbX9_compiledCall_86 (sX9_compiledCall_86 n) r0 v1 v2 v5 v6 v7 v8
theorem sbX9_compiledCall_13  {k13 : Nat → Int32 → Int32 → Int32 → Int32 → Int32 → AH → Option (Int32 × AH)} (h13 : ∀ (r0 : Nat) (v1 : Int32) (v2 : Int32) (v3 : Int32) (v4 : Int32) (v5 : Int32), Sm mX9_compiledCall rI 0 0 13 [some (.ref r0), some (.int v1), some (.int v2), some (.int v3), some (.int v4), some (.int v5), none, none, none, none, none, none] [] (k13 r0 v1 v2 v3 v4 v5)) (r0 : Nat) (v1 : Int32) (v2 : Int32) (v3 : Int32) (v4 : Int32) (v5 : Int32) : Sm mX9_compiledCall rI 0 0 13 [some (.ref r0), some (.int v1), some (.int v2), some (.int v3), some (.int v4), some (.int v5), none, none, none, none, none, none] [] (bX9_compiledCall_13 k13 r0 v1 v2 v3 v4 v5) := by
  unfold bX9_compiledCall_13
  refine S_iload (pc := 13) dX9_compiledCall_13 rfl ?_
  refine S_aload_n (pc := 15) dX9_compiledCall_15 rfl ?_
  refine S_iload_n (pc := 16) dX9_compiledCall_16 rfl ?_
  refine Y_Vi (pc := 17) (st := [.int v5]) (kc' := 0) (ks' := 0) (ktX9_memberMany r0 v1) mw_X9_memberMany mv_X9_memberMany w1186 (RO.mk rfl rfl rfl rfl) rfl rfl rfl dX9_compiledCall_17 ⟨rfl, rfl⟩ (fun x_88 => ?_)
  refine S_icmpge (pc := 20) (tgt := 65) dX9_compiledCall_20 (by decide) ?_ ?_
  · refine S_iload (pc := 65) dX9_compiledCall_65 rfl ?_
    refine S_ifne (pc := 67) (tgt := 72) dX9_compiledCall_67 (by decide) ?_ ?_
    · refine S_bipush (pc := 72) (v := (-2 : Int32)) dX9_compiledCall_72 kB_m2 ?_
      refine Z_istore (pc := 74) (lv' := [some (.ref r0), some (.int v1), some (.int v2), some (.int v3), some (.int v4), some (.int (-2 : Int32)), none, none, none, none, none, none]) dX9_compiledCall_74 rfl rfl rfl ?_
      refine S_bipush (pc := 76) (v := (-2 : Int32)) dX9_compiledCall_76 kB_m2 ?_
      refine Z_istore (pc := 78) (lv' := [some (.ref r0), some (.int v1), some (.int v2), some (.int v3), some (.int v4), some (.int (-2 : Int32)), some (.int (-2 : Int32)), none, none, none, none, none]) dX9_compiledCall_78 rfl rfl rfl ?_
      refine S_iconst (pc := 80) (v := (nI 0)) dX9_compiledCall_80 kI_0 ?_
      refine Z_istore (pc := 81) (lv' := [some (.ref r0), some (.int v1), some (.int v2), some (.int v3), some (.int v4), some (.int (-2 : Int32)), some (.int (-2 : Int32)), some (.int (nI 0)), none, none, none, none]) dX9_compiledCall_81 rfl rfl rfl ?_
      refine S_iconst (pc := 83) (v := (nI 0)) dX9_compiledCall_83 kI_0 ?_
      refine Z_istore (pc := 84) (lv' := [some (.ref r0), some (.int v1), some (.int v2), some (.int v3), some (.int v4), some (.int (-2 : Int32)), some (.int (-2 : Int32)), some (.int (nI 0)), some (.int (nI 0)), none, none, none]) dX9_compiledCall_84 rfl rfl rfl ?_
      exact (S_lv (lv0 := [some (.ref r0), some (.int v1), some (.int v2), none, none, some (.int (-2 : Int32)), some (.int (-2 : Int32)), some (.int (nI 0)), some (.int (nI 0)), none, none, none]) (And.intro rfl (And.intro rfl (And.intro rfl (And.intro rfl (And.intro rfl (And.intro rfl (And.intro rfl trivial))))))) (sX9_compiledCall_86 fuel r0 v1 v2 (-2 : Int32) (-2 : Int32) (nI 0) (nI 0)))
    · refine S_iconst (pc := 70) (v := (nI 3)) dX9_compiledCall_70 kI_3 ?_
      exact S_iret (pc := 71) ⟨rfl, rfl⟩ rfl rfl dX9_compiledCall_71
  · refine S_aload_n (pc := 23) dX9_compiledCall_23 rfl ?_
    refine S_gP (pc := 24) fl_X9_28 rfl dX9_compiledCall_24 (fun a_89 => ?_)
    refine S_iload (pc := 27) dX9_compiledCall_27 rfl ?_
    refine S_aload_n (pc := 29) dX9_compiledCall_29 rfl ?_
    refine S_iload_n (pc := 30) dX9_compiledCall_30 rfl ?_
    refine S_iload (pc := 31) dX9_compiledCall_31 rfl ?_
    refine S_iload_n (pc := 33) dX9_compiledCall_33 rfl ?_
    refine S_iload_n (pc := 34) dX9_compiledCall_34 rfl ?_
    refine Y_Vi (pc := 35) (st := [.int v5, .ref a_89]) (kc' := 0) (ks' := 0) (ktX9_isApplicable r0 v1 v5 v2 v3) mw_X9_isApplicable mv_X9_isApplicable w1274 (RO.mk rfl rfl rfl rfl) rfl rfl rfl dX9_compiledCall_35 ⟨rfl, rfl⟩ (fun x_90 => ?_)
    refine S_stZ (pc := 38) dX9_compiledCall_38 ?_
    refine S_iload (pc := 39) dX9_compiledCall_39 rfl ?_
    refine S_aload_n (pc := 41) dX9_compiledCall_41 rfl ?_
    refine S_gP (pc := 42) fl_X9_28 rfl dX9_compiledCall_42 (fun a_91 => ?_)
    refine S_iload (pc := 45) dX9_compiledCall_45 rfl ?_
    refine S_ldZ (pc := 47) dX9_compiledCall_47 (fun x_92 => ?_)
    refine S_ifeq (pc := 48) (tgt := 55) dX9_compiledCall_48 (by decide) ?_ ?_
    · refine S_iconst (pc := 55) (v := (nI 0)) dX9_compiledCall_55 kI_0 ?_
      exact (S_lv (lv0 := [some (.ref r0), some (.int v1), some (.int v2), some (.int v3), none, some (.int v5), none, none, none, none, none, none]) (And.intro rfl (And.intro rfl (And.intro rfl (And.intro rfl (And.intro rfl trivial))))) (sX9_compiledCall_56 h13 r0 v1 v2 v3 v5 v4 (nI 0)))
    · refine S_iconst (pc := 51) (v := (nI 1)) dX9_compiledCall_51 kI_1 ?_
      refine S_goto (pc := 52) (tgt := 56) dX9_compiledCall_52 (by decide) ?_
      exact (S_lv (lv0 := [some (.ref r0), some (.int v1), some (.int v2), some (.int v3), none, some (.int v5), none, none, none, none, none, none]) (And.intro rfl (And.intro rfl (And.intro rfl (And.intro rfl (And.intro rfl trivial))))) (sX9_compiledCall_56 h13 r0 v1 v2 v3 v5 v4 (nI 1)))
theorem sX9_compiledCall_13  : ∀ (n : Nat) (r0 : Nat) (v1 : Int32) (v2 : Int32) (v3 : Int32) (v4 : Int32) (v5 : Int32), Sm mX9_compiledCall rI 0 0 13 [some (.ref r0), some (.int v1), some (.int v2), some (.int v3), some (.int v4), some (.int v5), none, none, none, none, none, none] [] (lX9_compiledCall_13 n r0 v1 v2 v3 v4 v5)
  | 0, _, _, _, _, _, _ => S_none
  | n + 1, r0, v1, v2, v3, v4, v5 => sbX9_compiledCall_13 (sX9_compiledCall_13 n) r0 v1 v2 v3 v4 v5
theorem sX9_compiledCall  (r0 : Nat) (v1 : Int32) (v2 : Int32) : Sm mX9_compiledCall rI 0 0 0 [some (.ref r0), some (.int v1), some (.int v2), none, none, none, none, none, none, none, none, none] [] (fX9_compiledCall r0 v1 v2) := by
  unfold fX9_compiledCall
  refine S_aload_n (pc := 0) dX9_compiledCall_0 rfl ?_
  refine S_iload_n (pc := 1) dX9_compiledCall_1 rfl ?_
  refine S_iload_n (pc := 2) dX9_compiledCall_2 rfl ?_
  refine Y_Vi (pc := 3) (st := []) (kc' := 0) (ks' := 0) (ktX9_supertypes r0 v1 v2) mw_X9_supertypes mv_X9_supertypes w1258 (RO.mk rfl rfl rfl rfl) rfl rfl rfl dX9_compiledCall_3 ⟨rfl, rfl⟩ (fun x_93 => ?_)
  refine Z_istore_n (pc := 6) (lv' := [some (.ref r0), some (.int v1), some (.int v2), some (.int x_93), none, none, none, none, none, none, none, none]) dX9_compiledCall_6 rfl rfl rfl ?_
  refine S_iconst (pc := 7) (v := (nI 0)) dX9_compiledCall_7 kI_0 ?_
  refine Z_istore (pc := 8) (lv' := [some (.ref r0), some (.int v1), some (.int v2), some (.int x_93), some (.int (nI 0)), none, none, none, none, none, none, none]) dX9_compiledCall_8 rfl rfl rfl ?_
  refine S_iconst (pc := 10) (v := (nI 0)) dX9_compiledCall_10 kI_0 ?_
  refine Z_istore (pc := 11) (lv' := [some (.ref r0), some (.int v1), some (.int v2), some (.int x_93), some (.int (nI 0)), some (.int (nI 0)), none, none, none, none, none, none]) dX9_compiledCall_11 rfl rfl rfl ?_
  exact (sX9_compiledCall_13 fuel r0 v1 v2 x_93 (nI 0) (nI 0))
theorem ktX9_compiledCall (r0 : Nat) (v1 : Int32) (v2 : Int32) : Ct mX9_compiledCall rI [.ref r0, .int v1, .int v2] (fX9_compiledCall r0 v1 v2) := Ct.of (z := 9) pn_X9 rfl rfl rfl (sX9_compiledCall r0 v1 v2)
def mX9_wants : MI := (yX9_wants, cX9_wants, 6, none, { frames := 0, cells := 0, slots := 0, locals := 0 }, [])
theorem mw_X9_wants : MW mX9_wants 5 := ⟨w1309, w11, ⟨by decide, by decide⟩, by decide +kernel⟩
theorem mv_X9_wants : MV mX9_wants 9 := ⟨_, rfl, w1308, wp63⟩
def fX9_wants  (r0 : Nat) (v1 : Int32) (v2 : Int32) (v3 : Int32) (v4 : Int32) (v5 : Int32) : AH → Option (Unit × AH) := fun h =>
  (pI 9 r0 6 v1 h).bind fun h =>
  (pI 9 r0 7 v2 h).bind fun h =>
  (pI 9 r0 8 v3 h).bind fun h =>
  (pI 9 r0 9 v4 h).bind fun h =>
  (pI 9 r0 10 v5 h).bind fun h =>
  some ((), h)
theorem sX9_wants  (r0 : Nat) (v1 : Int32) (v2 : Int32) (v3 : Int32) (v4 : Int32) (v5 : Int32) : Sm mX9_wants rV 0 0 0 [some (.ref r0), some (.int v1), some (.int v2), some (.int v3), some (.int v4), some (.int v5)] [] (fX9_wants r0 v1 v2 v3 v4 v5) := by
  unfold fX9_wants
  refine S_aload_n (pc := 0) dX9_wants_0 rfl ?_
  refine S_iload_n (pc := 1) dX9_wants_1 rfl ?_
  refine S_pI (pc := 2) fl_X9_180 rfl rfl dX9_wants_2 ?_
  refine S_aload_n (pc := 5) dX9_wants_5 rfl ?_
  refine S_iload_n (pc := 6) dX9_wants_6 rfl ?_
  refine S_pI (pc := 7) fl_X9_183 rfl rfl dX9_wants_7 ?_
  refine S_aload_n (pc := 10) dX9_wants_10 rfl ?_
  refine S_iload_n (pc := 11) dX9_wants_11 rfl ?_
  refine S_pI (pc := 12) fl_X9_186 rfl rfl dX9_wants_12 ?_
  refine S_aload_n (pc := 15) dX9_wants_15 rfl ?_
  refine S_iload (pc := 16) dX9_wants_16 rfl ?_
  refine S_pI (pc := 18) fl_X9_189 rfl rfl dX9_wants_18 ?_
  refine S_aload_n (pc := 21) dX9_wants_21 rfl ?_
  refine S_iload (pc := 22) dX9_wants_22 rfl ?_
  refine S_pI (pc := 24) fl_X9_192 rfl rfl dX9_wants_24 ?_
  exact S_vret (pc := 27) ⟨rfl, rfl⟩ rfl rfl dX9_wants_27
theorem ktX9_wants (r0 : Nat) (v1 : Int32) (v2 : Int32) (v3 : Int32) (v4 : Int32) (v5 : Int32) : Ct mX9_wants rV [.ref r0, .int v1, .int v2, .int v3, .int v4, .int v5] (fX9_wants r0 v1 v2 v3 v4 v5) := Ct.of (z := 0) pn_X9 rfl rfl rfl (sX9_wants r0 v1 v2 v3 v4 v5)
def mX9_wantsLike : MI := (yX9_wantsLike, cX9_wantsLike, 3, none, { frames := 2, cells := 0, slots := 0, locals := 44 }, [])
theorem mw_X9_wantsLike : MW mX9_wantsLike 2 := ⟨w1305, w11, ⟨by decide, by decide⟩, by decide +kernel⟩
theorem mv_X9_wantsLike : MV mX9_wantsLike 9 := ⟨_, rfl, w1304, wp62⟩
def fX9_wantsLike  (r0 : Nat) (v1 : Int32) (v2 : Int32) : AH → Option (Unit × AH) := fun h =>
  cv 9 r0 (fX9_its r0 v1 v2 (nI 2)) h fun x_6 h =>
  cv 9 r0 (fX9_its r0 v1 v2 (nI 5)) h fun x_7 h =>
  cv 9 r0 (fX9_its r0 v1 v2 (nI 6)) h fun x_8 h =>
  cv 9 r0 (fX9_its r0 v1 v2 (nI 7)) h fun x_9 h =>
  cv 9 r0 (fX9_its r0 v1 v2 (nI 8)) h fun x_10 h =>
  cv 9 r0 (fX9_wants r0 x_6 x_7 x_8 x_9 x_10) h fun _ h =>
  some ((), h)
theorem sX9_wantsLike  (r0 : Nat) (v1 : Int32) (v2 : Int32) : Sm mX9_wantsLike rV 0 0 0 [some (.ref r0), some (.int v1), some (.int v2)] [] (fX9_wantsLike r0 v1 v2) := by
  unfold fX9_wantsLike
  refine S_aload_n (pc := 0) dX9_wantsLike_0 rfl ?_
  refine S_aload_n (pc := 1) dX9_wantsLike_1 rfl ?_
  refine S_iload_n (pc := 2) dX9_wantsLike_2 rfl ?_
  refine S_iload_n (pc := 3) dX9_wantsLike_3 rfl ?_
  refine S_iconst (pc := 4) (v := (nI 2)) dX9_wantsLike_4 kI_2 ?_
  refine Y_Vi (pc := 5) (st := [.ref r0]) (kc' := 0) (ks' := 0) (ktX9_its r0 v1 v2 (nI 2)) mw_X9_its mv_X9_its w1243 (RO.mk rfl rfl rfl rfl) rfl rfl rfl dX9_wantsLike_5 ⟨rfl, rfl⟩ (fun x_6 => ?_)
  refine S_aload_n (pc := 8) dX9_wantsLike_8 rfl ?_
  refine S_iload_n (pc := 9) dX9_wantsLike_9 rfl ?_
  refine S_iload_n (pc := 10) dX9_wantsLike_10 rfl ?_
  refine S_iconst (pc := 11) (v := (nI 5)) dX9_wantsLike_11 kI_5 ?_
  refine Y_Vi (pc := 12) (st := [.int x_6, .ref r0]) (kc' := 0) (ks' := 0) (ktX9_its r0 v1 v2 (nI 5)) mw_X9_its mv_X9_its w1243 (RO.mk rfl rfl rfl rfl) rfl rfl rfl dX9_wantsLike_12 ⟨rfl, rfl⟩ (fun x_7 => ?_)
  refine S_aload_n (pc := 15) dX9_wantsLike_15 rfl ?_
  refine S_iload_n (pc := 16) dX9_wantsLike_16 rfl ?_
  refine S_iload_n (pc := 17) dX9_wantsLike_17 rfl ?_
  refine S_bipush (pc := 18) (v := (nI 6)) dX9_wantsLike_18 kB_6 ?_
  refine Y_Vi (pc := 20) (st := [.int x_7, .int x_6, .ref r0]) (kc' := 0) (ks' := 0) (ktX9_its r0 v1 v2 (nI 6)) mw_X9_its mv_X9_its w1243 (RO.mk rfl rfl rfl rfl) rfl rfl rfl dX9_wantsLike_20 ⟨rfl, rfl⟩ (fun x_8 => ?_)
  refine S_aload_n (pc := 23) dX9_wantsLike_23 rfl ?_
  refine S_iload_n (pc := 24) dX9_wantsLike_24 rfl ?_
  refine S_iload_n (pc := 25) dX9_wantsLike_25 rfl ?_
  refine S_bipush (pc := 26) (v := (nI 7)) dX9_wantsLike_26 kB_7 ?_
  refine Y_Vi (pc := 28) (st := [.int x_8, .int x_7, .int x_6, .ref r0]) (kc' := 0) (ks' := 0) (ktX9_its r0 v1 v2 (nI 7)) mw_X9_its mv_X9_its w1243 (RO.mk rfl rfl rfl rfl) rfl rfl rfl dX9_wantsLike_28 ⟨rfl, rfl⟩ (fun x_9 => ?_)
  refine S_aload_n (pc := 31) dX9_wantsLike_31 rfl ?_
  refine S_iload_n (pc := 32) dX9_wantsLike_32 rfl ?_
  refine S_iload_n (pc := 33) dX9_wantsLike_33 rfl ?_
  refine S_bipush (pc := 34) (v := (nI 8)) dX9_wantsLike_34 kB_8 ?_
  refine Y_Vi (pc := 36) (st := [.int x_9, .int x_8, .int x_7, .int x_6, .ref r0]) (kc' := 0) (ks' := 0) (ktX9_its r0 v1 v2 (nI 8)) mw_X9_its mv_X9_its w1243 (RO.mk rfl rfl rfl rfl) rfl rfl rfl dX9_wantsLike_36 ⟨rfl, rfl⟩ (fun x_10 => ?_)
  refine Y_Vv (pc := 39) (st := []) (kc' := 0) (ks' := 0) (ktX9_wants r0 x_6 x_7 x_8 x_9 x_10) mw_X9_wants mv_X9_wants w1306 (RO.mk rfl rfl rfl rfl) rfl rfl rfl dX9_wantsLike_39 ⟨rfl, rfl⟩ ?_
  exact S_vret (pc := 42) ⟨rfl, rfl⟩ rfl rfl dX9_wantsLike_42
theorem ktX9_wantsLike (r0 : Nat) (v1 : Int32) (v2 : Int32) : Ct mX9_wantsLike rV [.ref r0, .int v1, .int v2] (fX9_wantsLike r0 v1 v2) := Ct.of (z := 0) pn_X9 rfl rfl rfl (sX9_wantsLike r0 v1 v2)
def mX9_own : MI := (yX9_own, cX9_own, 4, (some .int), { frames := 4, cells := 0, slots := 0, locals := 98 }, [])
theorem mw_X9_own : MW mX9_own 2 := ⟨w1317, w11, ⟨by decide, by decide⟩, by decide +kernel⟩
theorem mv_X9_own : MV mX9_own 9 := ⟨_, rfl, w1316, wp65⟩
def fX9_own  (r0 : Nat) (v1 : Int32) (v2 : Int32) : AH → Option (Int32 × AH) := fun h =>
  (gI 9 r0 6 h).bind fun x_8 =>
  (gI 9 r0 8 h).bind fun x_9 =>
  (gI 9 r0 9 h).bind fun x_10 =>
  (gI 9 r0 10 h).bind fun x_11 =>
  cv 9 r0 (fX9_found r0 v1 v2 (nI 1) x_8 x_9 x_10 x_11) h fun x_12 h =>
  if x_12 = (-2 : Int32) then (
    some ((-2 : Int32), h))
  else
  cv 9 r0 (fX9_its r0 v1 x_12 (nI 5)) h fun x_13 h =>
  (gI 9 r0 7 h).bind fun x_14 =>
  if x_13 = x_14 then (
    some (x_12, h))
  else
  some ((-2 : Int32), h)
theorem sX9_own  (r0 : Nat) (v1 : Int32) (v2 : Int32) : Sm mX9_own rI 0 0 0 [some (.ref r0), some (.int v1), some (.int v2), none] [] (fX9_own r0 v1 v2) := by
  unfold fX9_own
  refine S_aload_n (pc := 0) dX9_own_0 rfl ?_
  refine S_iload_n (pc := 1) dX9_own_1 rfl ?_
  refine S_iload_n (pc := 2) dX9_own_2 rfl ?_
  refine S_iconst (pc := 3) (v := (nI 1)) dX9_own_3 kI_1 ?_
  refine S_aload_n (pc := 4) dX9_own_4 rfl ?_
  refine S_gI (pc := 5) fl_X9_180 rfl dX9_own_5 (fun x_8 => ?_)
  refine S_aload_n (pc := 8) dX9_own_8 rfl ?_
  refine S_gI (pc := 9) fl_X9_186 rfl dX9_own_9 (fun x_9 => ?_)
  refine S_aload_n (pc := 12) dX9_own_12 rfl ?_
  refine S_gI (pc := 13) fl_X9_189 rfl dX9_own_13 (fun x_10 => ?_)
  refine S_aload_n (pc := 16) dX9_own_16 rfl ?_
  refine S_gI (pc := 17) fl_X9_192 rfl dX9_own_17 (fun x_11 => ?_)
  refine Y_Vi (pc := 20) (st := []) (kc' := 0) (ks' := 0) (ktX9_found r0 v1 v2 (nI 1) x_8 x_9 x_10 x_11) mw_X9_found mv_X9_found w1239 (RO.mk rfl rfl rfl rfl) rfl rfl rfl dX9_own_20 ⟨rfl, rfl⟩ (fun x_12 => ?_)
  refine Z_istore_n (pc := 23) (lv' := [some (.ref r0), some (.int v1), some (.int v2), some (.int x_12)]) dX9_own_23 rfl rfl rfl ?_
  refine S_iload_n (pc := 24) dX9_own_24 rfl ?_
  refine S_bipush (pc := 25) (v := (-2 : Int32)) dX9_own_25 kB_m2 ?_
  refine S_icmpeq (pc := 27) (tgt := 48) dX9_own_27 (by decide) ?_ ?_
  · refine S_bipush (pc := 48) (v := (-2 : Int32)) dX9_own_48 kB_m2 ?_
    exact S_iret (pc := 50) ⟨rfl, rfl⟩ rfl rfl dX9_own_50
  · refine S_aload_n (pc := 30) dX9_own_30 rfl ?_
    refine S_iload_n (pc := 31) dX9_own_31 rfl ?_
    refine S_iload_n (pc := 32) dX9_own_32 rfl ?_
    refine S_iconst (pc := 33) (v := (nI 5)) dX9_own_33 kI_5 ?_
    refine Y_Vi (pc := 34) (st := []) (kc' := 0) (ks' := 0) (ktX9_its r0 v1 x_12 (nI 5)) mw_X9_its mv_X9_its w1243 (RO.mk rfl rfl rfl rfl) rfl rfl rfl dX9_own_34 ⟨rfl, rfl⟩ (fun x_13 => ?_)
    refine S_aload_n (pc := 37) dX9_own_37 rfl ?_
    refine S_gI (pc := 38) fl_X9_183 rfl dX9_own_38 (fun x_14 => ?_)
    refine S_icmpne (pc := 41) (tgt := 48) dX9_own_41 (by decide) ?_ ?_
    · refine S_bipush (pc := 48) (v := (-2 : Int32)) dX9_own_48 kB_m2 ?_
      exact S_iret (pc := 50) ⟨rfl, rfl⟩ rfl rfl dX9_own_50
    · refine S_iload_n (pc := 44) dX9_own_44 rfl ?_
      refine S_goto (pc := 45) (tgt := 50) dX9_own_45 (by decide) ?_
      exact S_iret (pc := 50) ⟨rfl, rfl⟩ rfl rfl dX9_own_50
theorem ktX9_own (r0 : Nat) (v1 : Int32) (v2 : Int32) : Ct mX9_own rI [.ref r0, .int v1, .int v2] (fX9_own r0 v1 v2) := Ct.of (z := 1) pn_X9 rfl rfl rfl (sX9_own r0 v1 v2)
def mX9_isCandidate : MI := (yX9_isCandidate, cX9_isCandidate, 3, (some .boolean), { frames := 3, cells := 0, slots := 0, locals := 66 }, [])
theorem mw_X9_isCandidate : MW mX9_isCandidate 2 := ⟨w1321, w11, ⟨by decide, by decide⟩, by decide +kernel⟩
theorem mv_X9_isCandidate : MV mX9_isCandidate 9 := ⟨_, rfl, w1320, wp66⟩
def fX9_isCandidate  (r0 : Nat) (v1 : Int32) (v2 : Int32) : AH → Option (Int32 × AH) := fun h =>
  if v2 = (-2 : Int32) then (
    rz (nI 0) (nI 0) h)
  else
  cv 9 r0 (fX9_isStatic r0 v1 v2) h fun x_3 h =>
  if x_3 = 0 then (
    cv 9 r0 (fX9_its r0 v1 v2 (nI 3)) h fun x_4 h =>
    if x_4 ≤ 0 then (
      rz (nI 0) (nI 0) h)
    else
    rz (nI 1) (nI 1) h)
  else
  rz (nI 0) (nI 0) h
theorem sX9_isCandidate  (r0 : Nat) (v1 : Int32) (v2 : Int32) : Sm mX9_isCandidate rI 0 0 0 [some (.ref r0), some (.int v1), some (.int v2)] [] (fX9_isCandidate r0 v1 v2) := by
  unfold fX9_isCandidate
  refine S_iload_n (pc := 0) dX9_isCandidate_0 rfl ?_
  refine S_bipush (pc := 1) (v := (-2 : Int32)) dX9_isCandidate_1 kB_m2 ?_
  refine S_icmpeq (pc := 3) (tgt := 29) dX9_isCandidate_3 (by decide) ?_ ?_
  · refine S_iconst (pc := 29) (v := (nI 0)) dX9_isCandidate_29 kI_0 ?_
    exact S_zret (pc := 30) ⟨rfl, rfl⟩ rfl rfl dX9_isCandidate_30
  · refine S_aload_n (pc := 6) dX9_isCandidate_6 rfl ?_
    refine S_iload_n (pc := 7) dX9_isCandidate_7 rfl ?_
    refine S_iload_n (pc := 8) dX9_isCandidate_8 rfl ?_
    refine Y_Vi (pc := 9) (st := []) (kc' := 0) (ks' := 0) (ktX9_isStatic r0 v1 v2) mw_X9_isStatic mv_X9_isStatic w1266 (RO.mk rfl rfl rfl rfl) rfl rfl rfl dX9_isCandidate_9 ⟨rfl, rfl⟩ (fun x_3 => ?_)
    refine S_ifne (pc := 12) (tgt := 29) dX9_isCandidate_12 (by decide) ?_ ?_
    · refine S_iconst (pc := 29) (v := (nI 0)) dX9_isCandidate_29 kI_0 ?_
      exact S_zret (pc := 30) ⟨rfl, rfl⟩ rfl rfl dX9_isCandidate_30
    · refine S_aload_n (pc := 15) dX9_isCandidate_15 rfl ?_
      refine S_iload_n (pc := 16) dX9_isCandidate_16 rfl ?_
      refine S_iload_n (pc := 17) dX9_isCandidate_17 rfl ?_
      refine S_iconst (pc := 18) (v := (nI 3)) dX9_isCandidate_18 kI_3 ?_
      refine Y_Vi (pc := 19) (st := []) (kc' := 0) (ks' := 0) (ktX9_its r0 v1 v2 (nI 3)) mw_X9_its mv_X9_its w1243 (RO.mk rfl rfl rfl rfl) rfl rfl rfl dX9_isCandidate_19 ⟨rfl, rfl⟩ (fun x_4 => ?_)
      refine S_ifle (pc := 22) (tgt := 29) dX9_isCandidate_22 (by decide) ?_ ?_
      · refine S_iconst (pc := 29) (v := (nI 0)) dX9_isCandidate_29 kI_0 ?_
        exact S_zret (pc := 30) ⟨rfl, rfl⟩ rfl rfl dX9_isCandidate_30
      · refine S_iconst (pc := 25) (v := (nI 1)) dX9_isCandidate_25 kI_1 ?_
        refine S_goto (pc := 26) (tgt := 30) dX9_isCandidate_26 (by decide) ?_
        exact S_zret (pc := 30) ⟨rfl, rfl⟩ rfl rfl dX9_isCandidate_30
theorem ktX9_isCandidate (r0 : Nat) (v1 : Int32) (v2 : Int32) : Ct mX9_isCandidate rI [.ref r0, .int v1, .int v2] (fX9_isCandidate r0 v1 v2) := Ct.of (z := 0) pn_X9 rfl rfl rfl (sX9_isCandidate r0 v1 v2)
def mX9_looksAt : MI := (yX9_looksAt, cX9_looksAt, 8, none, { frames := 5, cells := 0, slots := 0, locals := 121 }, [])
theorem mw_X9_looksAt : MW mX9_looksAt 2 := ⟨w1325, w11, ⟨by decide, by decide⟩, by decide +kernel⟩
theorem mv_X9_looksAt : MV mX9_looksAt 9 := ⟨_, rfl, w1324, wp67⟩
def fX9_looksAt_155 (k24 : Nat → Int32 → Int32 → Int32 → AH → Option (Unit × AH)) (k72 : Nat → Int32 → Int32 → Int32 → Int32 → Int32 → Int32 → AH → Option (Unit × AH)) (r0 : Nat) (v1 : Int32) (v2 : Int32) (v3 : Int32) (v4 : Int32) (v6 : Int32) (s0 : Int32) : AH → Option (Unit × AH) := fun h =>
  k72 r0 v1 v2 v3 v4 s0 (v6 + (nI 1)) h
def fX9_looksAt_128 (k24 : Nat → Int32 → Int32 → Int32 → AH → Option (Unit × AH)) (k72 : Nat → Int32 → Int32 → Int32 → Int32 → Int32 → Int32 → AH → Option (Unit × AH)) (r0 : Nat) (v1 : Int32) (v2 : Int32) (v3 : Int32) (v4 : Int32) (v6 : Int32) (s0 : Int32) : AH → Option (Unit × AH) := fun h =>
  if s0 = 0 then (
    fX9_looksAt_155 k24 k72 r0 v1 v2 v3 v4 v6 (nI 1) h)
  else
  cv 9 r0 (fX9_own r0 v1 v6) h fun x_35 h =>
  cv 9 r0 (fX9_isCandidate r0 v1 x_35) h fun x_36 h =>
  if x_36 = 0 then (
    fX9_looksAt_155 k24 k72 r0 v1 v2 v3 v4 v6 (nI 1) h)
  else
  fX9_looksAt_155 k24 k72 r0 v1 v2 v3 v4 v6 (nI 0) h
def fX9_looksAt_127 (k24 : Nat → Int32 → Int32 → Int32 → AH → Option (Unit × AH)) (k72 : Nat → Int32 → Int32 → Int32 → Int32 → Int32 → Int32 → AH → Option (Unit × AH)) (r0 : Nat) (v1 : Int32) (v2 : Int32) (v3 : Int32) (v4 : Int32) (v6 : Int32) : AH → Option (Unit × AH) := fun h =>
  fX9_looksAt_128 k24 k72 r0 v1 v2 v3 v4 v6 (nI 0) h
def fX9_looksAt_238 (k24 : Nat → Int32 → Int32 → Int32 → AH → Option (Unit × AH)) (r0 : Nat) (v1 : Int32) (v2 : Int32) (v3 : Int32) : AH → Option (Unit × AH) := fun h =>
  k24 r0 v1 v2 (v3 + (nI 1)) h
def fX9_looksAt_225 (k24 : Nat → Int32 → Int32 → Int32 → AH → Option (Unit × AH)) (r0 : Nat) (v1 : Int32) (v2 : Int32) (v3 : Int32) (s0 : Nat) (s1 : Int32) : AH → Option (Unit × AH) := fun h =>
  (pI 9 s0 14 s1 h).bind fun h =>
  (gI 9 r0 13 h).bind fun x_37 =>
  (pI 9 r0 13 (x_37 + (nI 1)) h).bind fun h =>
  fX9_looksAt_238 k24 r0 v1 v2 v3 h
def fX9_looksAt_185 (k24 : Nat → Int32 → Int32 → Int32 → AH → Option (Unit × AH)) (r0 : Nat) (v1 : Int32) (v2 : Int32) (v3 : Int32) (v4 : Int32) (s0 : Nat) (s1 : Int32) : AH → Option (Unit × AH) := fun h =>
  (pI 9 s0 12 s1 h).bind fun h =>
  (gI 9 r0 11 h).bind fun x_38 =>
  (pI 9 r0 11 (x_38 + (nI 1)) h).bind fun h =>
  cv 9 r0 (fX9_isAbstract r0 v1 v4) h fun x_39 h =>
  if x_39 = 0 then (
    (gI 9 r0 13 h).bind fun x_40 =>
    if x_40 = 0 then (
      fX9_looksAt_225 k24 r0 v1 v2 v3 r0 v4 h)
    else
    (gI 9 r0 14 h).bind fun x_41 =>
    fX9_looksAt_225 k24 r0 v1 v2 v3 r0 x_41 h)
  else
  fX9_looksAt_238 k24 r0 v1 v2 v3 h
def fX9_looksAt_163 (k24 : Nat → Int32 → Int32 → Int32 → AH → Option (Unit × AH)) (r0 : Nat) (v1 : Int32) (v2 : Int32) (v3 : Int32) (v4 : Int32) (v5 : Int32) : AH → Option (Unit × AH) := fun h =>
  if v5 = 0 then (
    fX9_looksAt_238 k24 r0 v1 v2 v3 h)
  else
  (gI 9 r0 11 h).bind fun x_42 =>
  if x_42 = 0 then (
    fX9_looksAt_185 k24 r0 v1 v2 v3 v4 r0 v4 h)
  else
  (gI 9 r0 12 h).bind fun x_43 =>
  fX9_looksAt_185 k24 r0 v1 v2 v3 v4 r0 x_43 h
def bX9_looksAt_72 (k24 : Nat → Int32 → Int32 → Int32 → AH → Option (Unit × AH)) (k72 : Nat → Int32 → Int32 → Int32 → Int32 → Int32 → Int32 → AH → Option (Unit × AH)) (r0 : Nat) (v1 : Int32) (v2 : Int32) (v3 : Int32) (v4 : Int32) (v5 : Int32) (v6 : Int32) : AH → Option (Unit × AH) := fun h =>
  if (nI 10) ≤ v6 then (
    fX9_looksAt_163 k24 r0 v1 v2 v3 v4 v5 h)
  else
  if v5 = 0 then (
    fX9_looksAt_163 k24 r0 v1 v2 v3 v4 v5 h)
  else
  if v6 = v3 then (
    fX9_looksAt_127 k24 k72 r0 v1 v2 v3 v4 v6 h)
  else
  bd (fX9_has v2 v6 h) fun x_44 h =>
  if x_44 = 0 then (
    fX9_looksAt_127 k24 k72 r0 v1 v2 v3 v4 v6 h)
  else
  cv 9 r0 (fX9_isInterface r0 v1 v6) h fun x_45 h =>
  if x_45 = 0 then (
    fX9_looksAt_127 k24 k72 r0 v1 v2 v3 v4 v6 h)
  else
  cv 9 r0 (fX9_supertypes r0 v1 v6) h fun x_46 h =>
  bd (fX9_has x_46 v3 h) fun x_47 h =>
  if x_47 = 0 then (
    fX9_looksAt_127 k24 k72 r0 v1 v2 v3 v4 v6 h)
  else
  fX9_looksAt_128 k24 k72 r0 v1 v2 v3 v4 v6 (nI 1) h
def lX9_looksAt_72 (k24 : Nat → Int32 → Int32 → Int32 → AH → Option (Unit × AH)) : Nat → Nat → Int32 → Int32 → Int32 → Int32 → Int32 → Int32 → AH → Option (Unit × AH)
  | 0 => fun _ _ _ _ _ _ _ _ => none
  | n + 1 => bX9_looksAt_72 k24 (lX9_looksAt_72 k24 n)
def fX9_looksAt_58 (k24 : Nat → Int32 → Int32 → Int32 → AH → Option (Unit × AH)) (r0 : Nat) (v1 : Int32) (v2 : Int32) (v3 : Int32) (s0 : Int32) : AH → Option (Unit × AH) := fun h =>
  cv 9 r0 (fX9_isCandidate r0 v1 s0) h fun x_48 h =>
  lX9_looksAt_72 k24 fuel r0 v1 v2 v3 s0 x_48 (nI 0) h
def fX9_looksAt_56 (k24 : Nat → Int32 → Int32 → Int32 → AH → Option (Unit × AH)) (r0 : Nat) (v1 : Int32) (v2 : Int32) (v3 : Int32) : AH → Option (Unit × AH) := fun h =>
  fX9_looksAt_58 k24 r0 v1 v2 v3 (-2 : Int32) h
def bX9_looksAt_24  (k24 : Nat → Int32 → Int32 → Int32 → AH → Option (Unit × AH)) (r0 : Nat) (v1 : Int32) (v2 : Int32) (v3 : Int32) : AH → Option (Unit × AH) := fun h =>
  if (nI 10) ≤ v3 then (
    some ((), h))
  else
  bd (fX9_has v2 v3 h) fun x_49 h =>
  if x_49 = 0 then (
    fX9_looksAt_56 k24 r0 v1 v2 v3 h)
  else
  cv 9 r0 (fX9_isInterface r0 v1 v3) h fun x_50 h =>
  if x_50 = 0 then (
    fX9_looksAt_56 k24 r0 v1 v2 v3 h)
  else
  cv 9 r0 (fX9_own r0 v1 v3) h fun x_51 h =>
  fX9_looksAt_58 k24 r0 v1 v2 v3 x_51 h
def lX9_looksAt_24  : Nat → Nat → Int32 → Int32 → Int32 → AH → Option (Unit × AH)
  | 0 => fun _ _ _ _ _ => none
  | n + 1 => bX9_looksAt_24 (lX9_looksAt_24 n)
def fX9_looksAt  (r0 : Nat) (v1 : Int32) (v2 : Int32) : AH → Option (Unit × AH) := fun h =>
  (pI 9 r0 11 (nI 0) h).bind fun h =>
  (pI 9 r0 12 (-2 : Int32) h).bind fun h =>
  (pI 9 r0 13 (nI 0) h).bind fun h =>
  (pI 9 r0 14 (-2 : Int32) h).bind fun h =>
  lX9_looksAt_24 fuel r0 v1 v2 (nI 0) h
theorem sX9_looksAt_155 {k24 : Nat → Int32 → Int32 → Int32 → AH → Option (Unit × AH)} (h24 : ∀ (r0 : Nat) (v1 : Int32) (v2 : Int32) (v3 : Int32), Sm mX9_looksAt rV 0 0 24 [some (.ref r0), some (.int v1), some (.int v2), some (.int v3), none, none, none, none] [] (k24 r0 v1 v2 v3)) {k72 : Nat → Int32 → Int32 → Int32 → Int32 → Int32 → Int32 → AH → Option (Unit × AH)} (h72 : ∀ (r0 : Nat) (v1 : Int32) (v2 : Int32) (v3 : Int32) (v4 : Int32) (v5 : Int32) (v6 : Int32), Sm mX9_looksAt rV 0 0 72 [some (.ref r0), some (.int v1), some (.int v2), some (.int v3), some (.int v4), some (.int v5), some (.int v6), none] [] (k72 r0 v1 v2 v3 v4 v5 v6)) (r0 : Nat) (v1 : Int32) (v2 : Int32) (v3 : Int32) (v4 : Int32) (v6 : Int32) (s0 : Int32) : Sm mX9_looksAt rV 0 0 155 [some (.ref r0), some (.int v1), some (.int v2), some (.int v3), some (.int v4), none, some (.int v6), none] [.int s0] (fX9_looksAt_155 k24 k72 r0 v1 v2 v3 v4 v6 s0) := by
  unfold fX9_looksAt_155
  refine Z_istore (pc := 155) (lv' := [some (.ref r0), some (.int v1), some (.int v2), some (.int v3), some (.int v4), some (.int s0), some (.int v6), none]) dX9_looksAt_155 rfl rfl rfl ?_
  refine Z_iinc (pc := 157) (v := (nI 1)) (lv' := [some (.ref r0), some (.int v1), some (.int v2), some (.int v3), some (.int v4), some (.int s0), some (.int (v6 + (nI 1))), none]) dX9_looksAt_157 rfl kI_1 rfl rfl rfl ?_
  refine S_goto (pc := 160) (tgt := 72) dX9_looksAt_160 (by decide) ?_
  exact (h72 r0 v1 v2 v3 v4 s0 (v6 + (nI 1)))
theorem sX9_looksAt_128 {k24 : Nat → Int32 → Int32 → Int32 → AH → Option (Unit × AH)} (h24 : ∀ (r0 : Nat) (v1 : Int32) (v2 : Int32) (v3 : Int32), Sm mX9_looksAt rV 0 0 24 [some (.ref r0), some (.int v1), some (.int v2), some (.int v3), none, none, none, none] [] (k24 r0 v1 v2 v3)) {k72 : Nat → Int32 → Int32 → Int32 → Int32 → Int32 → Int32 → AH → Option (Unit × AH)} (h72 : ∀ (r0 : Nat) (v1 : Int32) (v2 : Int32) (v3 : Int32) (v4 : Int32) (v5 : Int32) (v6 : Int32), Sm mX9_looksAt rV 0 0 72 [some (.ref r0), some (.int v1), some (.int v2), some (.int v3), some (.int v4), some (.int v5), some (.int v6), none] [] (k72 r0 v1 v2 v3 v4 v5 v6)) (r0 : Nat) (v1 : Int32) (v2 : Int32) (v3 : Int32) (v4 : Int32) (v6 : Int32) (s0 : Int32) : Sm mX9_looksAt rV 0 0 128 [some (.ref r0), some (.int v1), some (.int v2), some (.int v3), some (.int v4), none, some (.int v6), none] [.int s0] (fX9_looksAt_128 k24 k72 r0 v1 v2 v3 v4 v6 s0) := by
  unfold fX9_looksAt_128
  refine Z_istore (pc := 128) (lv' := [some (.ref r0), some (.int v1), some (.int v2), some (.int v3), some (.int v4), none, some (.int v6), some (.int s0)]) dX9_looksAt_128 rfl rfl rfl ?_
  refine S_iload (pc := 130) dX9_looksAt_130 rfl ?_
  refine S_ifeq (pc := 132) (tgt := 150) dX9_looksAt_132 (by decide) ?_ ?_
  · refine S_iconst (pc := 150) (v := (nI 1)) dX9_looksAt_150 kI_1 ?_
    refine S_goto (pc := 151) (tgt := 155) dX9_looksAt_151 (by decide) ?_
    exact (S_lv (lv0 := [some (.ref r0), some (.int v1), some (.int v2), some (.int v3), some (.int v4), none, some (.int v6), none]) (And.intro rfl (And.intro rfl (And.intro rfl (And.intro rfl (And.intro rfl (And.intro rfl trivial)))))) (sX9_looksAt_155 h24 h72 r0 v1 v2 v3 v4 v6 (nI 1)))
  · refine S_aload_n (pc := 135) dX9_looksAt_135 rfl ?_
    refine S_iload_n (pc := 136) dX9_looksAt_136 rfl ?_
    refine S_aload_n (pc := 137) dX9_looksAt_137 rfl ?_
    refine S_iload_n (pc := 138) dX9_looksAt_138 rfl ?_
    refine S_iload (pc := 139) dX9_looksAt_139 rfl ?_
    refine Y_Vi (pc := 141) (st := [.int v1, .ref r0]) (kc' := 0) (ks' := 0) (ktX9_own r0 v1 v6) mw_X9_own mv_X9_own w1314 (RO.mk rfl rfl rfl rfl) rfl rfl rfl dX9_looksAt_141 ⟨rfl, rfl⟩ (fun x_35 => ?_)
    refine Y_Vi (pc := 144) (st := []) (kc' := 0) (ks' := 0) (ktX9_isCandidate r0 v1 x_35) mw_X9_isCandidate mv_X9_isCandidate w1318 (RO.mk rfl rfl rfl rfl) rfl rfl rfl dX9_looksAt_144 ⟨rfl, rfl⟩ (fun x_36 => ?_)
    refine S_ifne (pc := 147) (tgt := 154) dX9_looksAt_147 (by decide) ?_ ?_
    · refine S_iconst (pc := 154) (v := (nI 0)) dX9_looksAt_154 kI_0 ?_
      exact (S_lv (lv0 := [some (.ref r0), some (.int v1), some (.int v2), some (.int v3), some (.int v4), none, some (.int v6), none]) (And.intro rfl (And.intro rfl (And.intro rfl (And.intro rfl (And.intro rfl (And.intro rfl trivial)))))) (sX9_looksAt_155 h24 h72 r0 v1 v2 v3 v4 v6 (nI 0)))
    · refine S_iconst (pc := 150) (v := (nI 1)) dX9_looksAt_150 kI_1 ?_
      refine S_goto (pc := 151) (tgt := 155) dX9_looksAt_151 (by decide) ?_
      exact (S_lv (lv0 := [some (.ref r0), some (.int v1), some (.int v2), some (.int v3), some (.int v4), none, some (.int v6), none]) (And.intro rfl (And.intro rfl (And.intro rfl (And.intro rfl (And.intro rfl (And.intro rfl trivial)))))) (sX9_looksAt_155 h24 h72 r0 v1 v2 v3 v4 v6 (nI 1)))
theorem sX9_looksAt_127 {k24 : Nat → Int32 → Int32 → Int32 → AH → Option (Unit × AH)} (h24 : ∀ (r0 : Nat) (v1 : Int32) (v2 : Int32) (v3 : Int32), Sm mX9_looksAt rV 0 0 24 [some (.ref r0), some (.int v1), some (.int v2), some (.int v3), none, none, none, none] [] (k24 r0 v1 v2 v3)) {k72 : Nat → Int32 → Int32 → Int32 → Int32 → Int32 → Int32 → AH → Option (Unit × AH)} (h72 : ∀ (r0 : Nat) (v1 : Int32) (v2 : Int32) (v3 : Int32) (v4 : Int32) (v5 : Int32) (v6 : Int32), Sm mX9_looksAt rV 0 0 72 [some (.ref r0), some (.int v1), some (.int v2), some (.int v3), some (.int v4), some (.int v5), some (.int v6), none] [] (k72 r0 v1 v2 v3 v4 v5 v6)) (r0 : Nat) (v1 : Int32) (v2 : Int32) (v3 : Int32) (v4 : Int32) (v6 : Int32) : Sm mX9_looksAt rV 0 0 127 [some (.ref r0), some (.int v1), some (.int v2), some (.int v3), some (.int v4), none, some (.int v6), none] [] (fX9_looksAt_127 k24 k72 r0 v1 v2 v3 v4 v6) := by
  unfold fX9_looksAt_127
  refine S_iconst (pc := 127) (v := (nI 0)) dX9_looksAt_127 kI_0 ?_
  exact (sX9_looksAt_128 h24 h72 r0 v1 v2 v3 v4 v6 (nI 0))
theorem sX9_looksAt_238 {k24 : Nat → Int32 → Int32 → Int32 → AH → Option (Unit × AH)} (h24 : ∀ (r0 : Nat) (v1 : Int32) (v2 : Int32) (v3 : Int32), Sm mX9_looksAt rV 0 0 24 [some (.ref r0), some (.int v1), some (.int v2), some (.int v3), none, none, none, none] [] (k24 r0 v1 v2 v3)) (r0 : Nat) (v1 : Int32) (v2 : Int32) (v3 : Int32) : Sm mX9_looksAt rV 0 0 238 [some (.ref r0), some (.int v1), some (.int v2), some (.int v3), none, none, none, none] [] (fX9_looksAt_238 k24 r0 v1 v2 v3) := by
  unfold fX9_looksAt_238
  refine Z_iinc (pc := 238) (v := (nI 1)) (lv' := [some (.ref r0), some (.int v1), some (.int v2), some (.int (v3 + (nI 1))), none, none, none, none]) dX9_looksAt_238 rfl kI_1 rfl rfl rfl ?_
  refine S_goto (pc := 241) (tgt := 24) dX9_looksAt_241 (by decide) ?_
  exact (h24 r0 v1 v2 (v3 + (nI 1)))
theorem sX9_looksAt_225 {k24 : Nat → Int32 → Int32 → Int32 → AH → Option (Unit × AH)} (h24 : ∀ (r0 : Nat) (v1 : Int32) (v2 : Int32) (v3 : Int32), Sm mX9_looksAt rV 0 0 24 [some (.ref r0), some (.int v1), some (.int v2), some (.int v3), none, none, none, none] [] (k24 r0 v1 v2 v3)) (r0 : Nat) (v1 : Int32) (v2 : Int32) (v3 : Int32) (s0 : Nat) (s1 : Int32) : Sm mX9_looksAt rV 0 0 225 [some (.ref r0), some (.int v1), some (.int v2), some (.int v3), none, none, none, none] [.int s1, .ref s0] (fX9_looksAt_225 k24 r0 v1 v2 v3 s0 s1) := by
  unfold fX9_looksAt_225
  refine S_pI (pc := 225) fl_X9_211 rfl rfl dX9_looksAt_225 ?_
  refine S_aload_n (pc := 228) dX9_looksAt_228 rfl ?_
  refine S_dup (pc := 229) rfl dX9_looksAt_229 ?_
  refine S_gI (pc := 230) fl_X9_208 rfl dX9_looksAt_230 (fun x_37 => ?_)
  refine S_iconst (pc := 233) (v := (nI 1)) dX9_looksAt_233 kI_1 ?_
  refine S_iadd (pc := 234) dX9_looksAt_234 ?_
  refine S_pI (pc := 235) fl_X9_208 rfl rfl dX9_looksAt_235 ?_
  exact (sX9_looksAt_238 h24 r0 v1 v2 v3)
theorem sX9_looksAt_185 {k24 : Nat → Int32 → Int32 → Int32 → AH → Option (Unit × AH)} (h24 : ∀ (r0 : Nat) (v1 : Int32) (v2 : Int32) (v3 : Int32), Sm mX9_looksAt rV 0 0 24 [some (.ref r0), some (.int v1), some (.int v2), some (.int v3), none, none, none, none] [] (k24 r0 v1 v2 v3)) (r0 : Nat) (v1 : Int32) (v2 : Int32) (v3 : Int32) (v4 : Int32) (s0 : Nat) (s1 : Int32) : Sm mX9_looksAt rV 0 0 185 [some (.ref r0), some (.int v1), some (.int v2), some (.int v3), some (.int v4), none, none, none] [.int s1, .ref s0] (fX9_looksAt_185 k24 r0 v1 v2 v3 v4 s0 s1) := by
  unfold fX9_looksAt_185
  refine S_pI (pc := 185) fl_X9_205 rfl rfl dX9_looksAt_185 ?_
  refine S_aload_n (pc := 188) dX9_looksAt_188 rfl ?_
  refine S_dup (pc := 189) rfl dX9_looksAt_189 ?_
  refine S_gI (pc := 190) fl_X9_202 rfl dX9_looksAt_190 (fun x_38 => ?_)
  refine S_iconst (pc := 193) (v := (nI 1)) dX9_looksAt_193 kI_1 ?_
  refine S_iadd (pc := 194) dX9_looksAt_194 ?_
  refine S_pI (pc := 195) fl_X9_202 rfl rfl dX9_looksAt_195 ?_
  refine S_aload_n (pc := 198) dX9_looksAt_198 rfl ?_
  refine S_iload_n (pc := 199) dX9_looksAt_199 rfl ?_
  refine S_iload (pc := 200) dX9_looksAt_200 rfl ?_
  refine Y_Vi (pc := 202) (st := []) (kc' := 0) (ks' := 0) (ktX9_isAbstract r0 v1 v4) mw_X9_isAbstract mv_X9_isAbstract w1294 (RO.mk rfl rfl rfl rfl) rfl rfl rfl dX9_looksAt_202 ⟨rfl, rfl⟩ (fun x_39 => ?_)
  refine S_ifne (pc := 205) (tgt := 238) dX9_looksAt_205 (by decide) ?_ ?_
  · exact (S_lv (lv0 := [some (.ref r0), some (.int v1), some (.int v2), some (.int v3), none, none, none, none]) (And.intro rfl (And.intro rfl (And.intro rfl (And.intro rfl trivial)))) (sX9_looksAt_238 h24 r0 v1 v2 v3))
  · refine S_aload_n (pc := 208) dX9_looksAt_208 rfl ?_
    refine S_aload_n (pc := 209) dX9_looksAt_209 rfl ?_
    refine S_gI (pc := 210) fl_X9_208 rfl dX9_looksAt_210 (fun x_40 => ?_)
    refine S_ifne (pc := 213) (tgt := 221) dX9_looksAt_213 (by decide) ?_ ?_
    · refine S_aload_n (pc := 221) dX9_looksAt_221 rfl ?_
      refine S_gI (pc := 222) fl_X9_211 rfl dX9_looksAt_222 (fun x_41 => ?_)
      exact (S_lv (lv0 := [some (.ref r0), some (.int v1), some (.int v2), some (.int v3), none, none, none, none]) (And.intro rfl (And.intro rfl (And.intro rfl (And.intro rfl trivial)))) (sX9_looksAt_225 h24 r0 v1 v2 v3 r0 x_41))
    · refine S_iload (pc := 216) dX9_looksAt_216 rfl ?_
      refine S_goto (pc := 218) (tgt := 225) dX9_looksAt_218 (by decide) ?_
      exact (S_lv (lv0 := [some (.ref r0), some (.int v1), some (.int v2), some (.int v3), none, none, none, none]) (And.intro rfl (And.intro rfl (And.intro rfl (And.intro rfl trivial)))) (sX9_looksAt_225 h24 r0 v1 v2 v3 r0 v4))
theorem sX9_looksAt_163 {k24 : Nat → Int32 → Int32 → Int32 → AH → Option (Unit × AH)} (h24 : ∀ (r0 : Nat) (v1 : Int32) (v2 : Int32) (v3 : Int32), Sm mX9_looksAt rV 0 0 24 [some (.ref r0), some (.int v1), some (.int v2), some (.int v3), none, none, none, none] [] (k24 r0 v1 v2 v3)) (r0 : Nat) (v1 : Int32) (v2 : Int32) (v3 : Int32) (v4 : Int32) (v5 : Int32) : Sm mX9_looksAt rV 0 0 163 [some (.ref r0), some (.int v1), some (.int v2), some (.int v3), some (.int v4), some (.int v5), none, none] [] (fX9_looksAt_163 k24 r0 v1 v2 v3 v4 v5) := by
  unfold fX9_looksAt_163
  refine S_iload (pc := 163) dX9_looksAt_163 rfl ?_
  refine S_ifeq (pc := 165) (tgt := 238) dX9_looksAt_165 (by decide) ?_ ?_
  · exact (S_lv (lv0 := [some (.ref r0), some (.int v1), some (.int v2), some (.int v3), none, none, none, none]) (And.intro rfl (And.intro rfl (And.intro rfl (And.intro rfl trivial)))) (sX9_looksAt_238 h24 r0 v1 v2 v3))
  · refine S_aload_n (pc := 168) dX9_looksAt_168 rfl ?_
    refine S_aload_n (pc := 169) dX9_looksAt_169 rfl ?_
    refine S_gI (pc := 170) fl_X9_202 rfl dX9_looksAt_170 (fun x_42 => ?_)
    refine S_ifne (pc := 173) (tgt := 181) dX9_looksAt_173 (by decide) ?_ ?_
    · refine S_aload_n (pc := 181) dX9_looksAt_181 rfl ?_
      refine S_gI (pc := 182) fl_X9_205 rfl dX9_looksAt_182 (fun x_43 => ?_)
      exact (S_lv (lv0 := [some (.ref r0), some (.int v1), some (.int v2), some (.int v3), some (.int v4), none, none, none]) (And.intro rfl (And.intro rfl (And.intro rfl (And.intro rfl (And.intro rfl trivial))))) (sX9_looksAt_185 h24 r0 v1 v2 v3 v4 r0 x_43))
    · refine S_iload (pc := 176) dX9_looksAt_176 rfl ?_
      refine S_goto (pc := 178) (tgt := 185) dX9_looksAt_178 (by decide) ?_
      exact (S_lv (lv0 := [some (.ref r0), some (.int v1), some (.int v2), some (.int v3), some (.int v4), none, none, none]) (And.intro rfl (And.intro rfl (And.intro rfl (And.intro rfl (And.intro rfl trivial))))) (sX9_looksAt_185 h24 r0 v1 v2 v3 v4 r0 v4))
theorem sbX9_looksAt_72 {k24 : Nat → Int32 → Int32 → Int32 → AH → Option (Unit × AH)} (h24 : ∀ (r0 : Nat) (v1 : Int32) (v2 : Int32) (v3 : Int32), Sm mX9_looksAt rV 0 0 24 [some (.ref r0), some (.int v1), some (.int v2), some (.int v3), none, none, none, none] [] (k24 r0 v1 v2 v3)) {k72 : Nat → Int32 → Int32 → Int32 → Int32 → Int32 → Int32 → AH → Option (Unit × AH)} (h72 : ∀ (r0 : Nat) (v1 : Int32) (v2 : Int32) (v3 : Int32) (v4 : Int32) (v5 : Int32) (v6 : Int32), Sm mX9_looksAt rV 0 0 72 [some (.ref r0), some (.int v1), some (.int v2), some (.int v3), some (.int v4), some (.int v5), some (.int v6), none] [] (k72 r0 v1 v2 v3 v4 v5 v6)) (r0 : Nat) (v1 : Int32) (v2 : Int32) (v3 : Int32) (v4 : Int32) (v5 : Int32) (v6 : Int32) : Sm mX9_looksAt rV 0 0 72 [some (.ref r0), some (.int v1), some (.int v2), some (.int v3), some (.int v4), some (.int v5), some (.int v6), none] [] (bX9_looksAt_72 k24 k72 r0 v1 v2 v3 v4 v5 v6) := by
  unfold bX9_looksAt_72
  refine S_iload (pc := 72) dX9_looksAt_72 rfl ?_
  refine S_bipush (pc := 74) (v := (nI 10)) dX9_looksAt_74 kB_10 ?_
  refine S_icmpge (pc := 76) (tgt := 163) dX9_looksAt_76 (by decide) ?_ ?_
  · exact (S_lv (lv0 := [some (.ref r0), some (.int v1), some (.int v2), some (.int v3), some (.int v4), some (.int v5), none, none]) (And.intro rfl (And.intro rfl (And.intro rfl (And.intro rfl (And.intro rfl (And.intro rfl trivial)))))) (sX9_looksAt_163 h24 r0 v1 v2 v3 v4 v5))
  · refine S_iload (pc := 79) dX9_looksAt_79 rfl ?_
    refine S_ifeq (pc := 81) (tgt := 163) dX9_looksAt_81 (by decide) ?_ ?_
    · exact (S_lv (lv0 := [some (.ref r0), some (.int v1), some (.int v2), some (.int v3), some (.int v4), some (.int v5), none, none]) (And.intro rfl (And.intro rfl (And.intro rfl (And.intro rfl (And.intro rfl (And.intro rfl trivial)))))) (sX9_looksAt_163 h24 r0 v1 v2 v3 v4 v5))
    · refine S_iload (pc := 84) dX9_looksAt_84 rfl ?_
      refine S_iload_n (pc := 86) dX9_looksAt_86 rfl ?_
      refine S_icmpeq (pc := 87) (tgt := 127) dX9_looksAt_87 (by decide) ?_ ?_
      · exact (S_lv (lv0 := [some (.ref r0), some (.int v1), some (.int v2), some (.int v3), some (.int v4), none, some (.int v6), none]) (And.intro rfl (And.intro rfl (And.intro rfl (And.intro rfl (And.intro rfl (And.intro rfl trivial)))))) (sX9_looksAt_127 h24 h72 r0 v1 v2 v3 v4 v6))
      · refine S_iload_n (pc := 90) dX9_looksAt_90 rfl ?_
        refine S_iload (pc := 91) dX9_looksAt_91 rfl ?_
        refine Y_Ti (pc := 93) (st := []) (kc' := 0) (ks' := 0) (ktX9_has v2 v6) mw_X9_has w1252 w1251 (RO.mk rfl rfl rfl rfl) rfl rfl rfl dX9_looksAt_93 ⟨rfl, rfl⟩ (fun x_44 => ?_)
        refine S_ifeq (pc := 96) (tgt := 127) dX9_looksAt_96 (by decide) ?_ ?_
        · exact (S_lv (lv0 := [some (.ref r0), some (.int v1), some (.int v2), some (.int v3), some (.int v4), none, some (.int v6), none]) (And.intro rfl (And.intro rfl (And.intro rfl (And.intro rfl (And.intro rfl (And.intro rfl trivial)))))) (sX9_looksAt_127 h24 h72 r0 v1 v2 v3 v4 v6))
        · refine S_aload_n (pc := 99) dX9_looksAt_99 rfl ?_
          refine S_iload_n (pc := 100) dX9_looksAt_100 rfl ?_
          refine S_iload (pc := 101) dX9_looksAt_101 rfl ?_
          refine Y_Vi (pc := 103) (st := []) (kc' := 0) (ks' := 0) (ktX9_isInterface r0 v1 v6) mw_X9_isInterface mv_X9_isInterface w1282 (RO.mk rfl rfl rfl rfl) rfl rfl rfl dX9_looksAt_103 ⟨rfl, rfl⟩ (fun x_45 => ?_)
          refine S_ifeq (pc := 106) (tgt := 127) dX9_looksAt_106 (by decide) ?_ ?_
          · exact (S_lv (lv0 := [some (.ref r0), some (.int v1), some (.int v2), some (.int v3), some (.int v4), none, some (.int v6), none]) (And.intro rfl (And.intro rfl (And.intro rfl (And.intro rfl (And.intro rfl (And.intro rfl trivial)))))) (sX9_looksAt_127 h24 h72 r0 v1 v2 v3 v4 v6))
          · refine S_aload_n (pc := 109) dX9_looksAt_109 rfl ?_
            refine S_iload_n (pc := 110) dX9_looksAt_110 rfl ?_
            refine S_iload (pc := 111) dX9_looksAt_111 rfl ?_
            refine Y_Vi (pc := 113) (st := []) (kc' := 0) (ks' := 0) (ktX9_supertypes r0 v1 v6) mw_X9_supertypes mv_X9_supertypes w1258 (RO.mk rfl rfl rfl rfl) rfl rfl rfl dX9_looksAt_113 ⟨rfl, rfl⟩ (fun x_46 => ?_)
            refine S_iload_n (pc := 116) dX9_looksAt_116 rfl ?_
            refine Y_Ti (pc := 117) (st := []) (kc' := 0) (ks' := 0) (ktX9_has x_46 v3) mw_X9_has w1252 w1251 (RO.mk rfl rfl rfl rfl) rfl rfl rfl dX9_looksAt_117 ⟨rfl, rfl⟩ (fun x_47 => ?_)
            refine S_ifeq (pc := 120) (tgt := 127) dX9_looksAt_120 (by decide) ?_ ?_
            · exact (S_lv (lv0 := [some (.ref r0), some (.int v1), some (.int v2), some (.int v3), some (.int v4), none, some (.int v6), none]) (And.intro rfl (And.intro rfl (And.intro rfl (And.intro rfl (And.intro rfl (And.intro rfl trivial)))))) (sX9_looksAt_127 h24 h72 r0 v1 v2 v3 v4 v6))
            · refine S_iconst (pc := 123) (v := (nI 1)) dX9_looksAt_123 kI_1 ?_
              refine S_goto (pc := 124) (tgt := 128) dX9_looksAt_124 (by decide) ?_
              exact (S_lv (lv0 := [some (.ref r0), some (.int v1), some (.int v2), some (.int v3), some (.int v4), none, some (.int v6), none]) (And.intro rfl (And.intro rfl (And.intro rfl (And.intro rfl (And.intro rfl (And.intro rfl trivial)))))) (sX9_looksAt_128 h24 h72 r0 v1 v2 v3 v4 v6 (nI 1)))
theorem sX9_looksAt_72 {k24 : Nat → Int32 → Int32 → Int32 → AH → Option (Unit × AH)} (h24 : ∀ (r0 : Nat) (v1 : Int32) (v2 : Int32) (v3 : Int32), Sm mX9_looksAt rV 0 0 24 [some (.ref r0), some (.int v1), some (.int v2), some (.int v3), none, none, none, none] [] (k24 r0 v1 v2 v3)) : ∀ (n : Nat) (r0 : Nat) (v1 : Int32) (v2 : Int32) (v3 : Int32) (v4 : Int32) (v5 : Int32) (v6 : Int32), Sm mX9_looksAt rV 0 0 72 [some (.ref r0), some (.int v1), some (.int v2), some (.int v3), some (.int v4), some (.int v5), some (.int v6), none] [] (lX9_looksAt_72 k24 n r0 v1 v2 v3 v4 v5 v6)
  | 0, _, _, _, _, _, _, _ => S_none
  | n + 1, r0, v1, v2, v3, v4, v5, v6 => sbX9_looksAt_72 h24 (sX9_looksAt_72 h24 n) r0 v1 v2 v3 v4 v5 v6
theorem sX9_looksAt_58 {k24 : Nat → Int32 → Int32 → Int32 → AH → Option (Unit × AH)} (h24 : ∀ (r0 : Nat) (v1 : Int32) (v2 : Int32) (v3 : Int32), Sm mX9_looksAt rV 0 0 24 [some (.ref r0), some (.int v1), some (.int v2), some (.int v3), none, none, none, none] [] (k24 r0 v1 v2 v3)) (r0 : Nat) (v1 : Int32) (v2 : Int32) (v3 : Int32) (s0 : Int32) : Sm mX9_looksAt rV 0 0 58 [some (.ref r0), some (.int v1), some (.int v2), some (.int v3), none, none, none, none] [.int s0] (fX9_looksAt_58 k24 r0 v1 v2 v3 s0) := by
  unfold fX9_looksAt_58
  refine Z_istore (pc := 58) (lv' := [some (.ref r0), some (.int v1), some (.int v2), some (.int v3), some (.int s0), none, none, none]) dX9_looksAt_58 rfl rfl rfl ?_
  refine S_aload_n (pc := 60) dX9_looksAt_60 rfl ?_
  refine S_iload_n (pc := 61) dX9_looksAt_61 rfl ?_
  refine S_iload (pc := 62) dX9_looksAt_62 rfl ?_
  refine Y_Vi (pc := 64) (st := []) (kc' := 0) (ks' := 0) (ktX9_isCandidate r0 v1 s0) mw_X9_isCandidate mv_X9_isCandidate w1318 (RO.mk rfl rfl rfl rfl) rfl rfl rfl dX9_looksAt_64 ⟨rfl, rfl⟩ (fun x_48 => ?_)
  refine Z_istore (pc := 67) (lv' := [some (.ref r0), some (.int v1), some (.int v2), some (.int v3), some (.int s0), some (.int x_48), none, none]) dX9_looksAt_67 rfl rfl rfl ?_
  refine S_iconst (pc := 69) (v := (nI 0)) dX9_looksAt_69 kI_0 ?_
  refine Z_istore (pc := 70) (lv' := [some (.ref r0), some (.int v1), some (.int v2), some (.int v3), some (.int s0), some (.int x_48), some (.int (nI 0)), none]) dX9_looksAt_70 rfl rfl rfl ?_
  exact (sX9_looksAt_72 h24 fuel r0 v1 v2 v3 s0 x_48 (nI 0))
theorem sX9_looksAt_56 {k24 : Nat → Int32 → Int32 → Int32 → AH → Option (Unit × AH)} (h24 : ∀ (r0 : Nat) (v1 : Int32) (v2 : Int32) (v3 : Int32), Sm mX9_looksAt rV 0 0 24 [some (.ref r0), some (.int v1), some (.int v2), some (.int v3), none, none, none, none] [] (k24 r0 v1 v2 v3)) (r0 : Nat) (v1 : Int32) (v2 : Int32) (v3 : Int32) : Sm mX9_looksAt rV 0 0 56 [some (.ref r0), some (.int v1), some (.int v2), some (.int v3), none, none, none, none] [] (fX9_looksAt_56 k24 r0 v1 v2 v3) := by
  unfold fX9_looksAt_56
  refine S_bipush (pc := 56) (v := (-2 : Int32)) dX9_looksAt_56 kB_m2 ?_
  exact (sX9_looksAt_58 h24 r0 v1 v2 v3 (-2 : Int32))
theorem sbX9_looksAt_24  {k24 : Nat → Int32 → Int32 → Int32 → AH → Option (Unit × AH)} (h24 : ∀ (r0 : Nat) (v1 : Int32) (v2 : Int32) (v3 : Int32), Sm mX9_looksAt rV 0 0 24 [some (.ref r0), some (.int v1), some (.int v2), some (.int v3), none, none, none, none] [] (k24 r0 v1 v2 v3)) (r0 : Nat) (v1 : Int32) (v2 : Int32) (v3 : Int32) : Sm mX9_looksAt rV 0 0 24 [some (.ref r0), some (.int v1), some (.int v2), some (.int v3), none, none, none, none] [] (bX9_looksAt_24 k24 r0 v1 v2 v3) := by
  unfold bX9_looksAt_24
  refine S_iload_n (pc := 24) dX9_looksAt_24 rfl ?_
  refine S_bipush (pc := 25) (v := (nI 10)) dX9_looksAt_25 kB_10 ?_
  refine S_icmpge (pc := 27) (tgt := 244) dX9_looksAt_27 (by decide) ?_ ?_
  · exact S_vret (pc := 244) ⟨rfl, rfl⟩ rfl rfl dX9_looksAt_244
  · refine S_iload_n (pc := 30) dX9_looksAt_30 rfl ?_
    refine S_iload_n (pc := 31) dX9_looksAt_31 rfl ?_
    refine Y_Ti (pc := 32) (st := []) (kc' := 0) (ks' := 0) (ktX9_has v2 v3) mw_X9_has w1252 w1251 (RO.mk rfl rfl rfl rfl) rfl rfl rfl dX9_looksAt_32 ⟨rfl, rfl⟩ (fun x_49 => ?_)
    refine S_ifeq (pc := 35) (tgt := 56) dX9_looksAt_35 (by decide) ?_ ?_
    · exact (sX9_looksAt_56 h24 r0 v1 v2 v3)
    · refine S_aload_n (pc := 38) dX9_looksAt_38 rfl ?_
      refine S_iload_n (pc := 39) dX9_looksAt_39 rfl ?_
      refine S_iload_n (pc := 40) dX9_looksAt_40 rfl ?_
      refine Y_Vi (pc := 41) (st := []) (kc' := 0) (ks' := 0) (ktX9_isInterface r0 v1 v3) mw_X9_isInterface mv_X9_isInterface w1282 (RO.mk rfl rfl rfl rfl) rfl rfl rfl dX9_looksAt_41 ⟨rfl, rfl⟩ (fun x_50 => ?_)
      refine S_ifeq (pc := 44) (tgt := 56) dX9_looksAt_44 (by decide) ?_ ?_
      · exact (sX9_looksAt_56 h24 r0 v1 v2 v3)
      · refine S_aload_n (pc := 47) dX9_looksAt_47 rfl ?_
        refine S_iload_n (pc := 48) dX9_looksAt_48 rfl ?_
        refine S_iload_n (pc := 49) dX9_looksAt_49 rfl ?_
        refine Y_Vi (pc := 50) (st := []) (kc' := 0) (ks' := 0) (ktX9_own r0 v1 v3) mw_X9_own mv_X9_own w1314 (RO.mk rfl rfl rfl rfl) rfl rfl rfl dX9_looksAt_50 ⟨rfl, rfl⟩ (fun x_51 => ?_)
        refine S_goto (pc := 53) (tgt := 58) dX9_looksAt_53 (by decide) ?_
        exact (sX9_looksAt_58 h24 r0 v1 v2 v3 x_51)
theorem sX9_looksAt_24  : ∀ (n : Nat) (r0 : Nat) (v1 : Int32) (v2 : Int32) (v3 : Int32), Sm mX9_looksAt rV 0 0 24 [some (.ref r0), some (.int v1), some (.int v2), some (.int v3), none, none, none, none] [] (lX9_looksAt_24 n r0 v1 v2 v3)
  | 0, _, _, _, _ => S_none
  | n + 1, r0, v1, v2, v3 => sbX9_looksAt_24 (sX9_looksAt_24 n) r0 v1 v2 v3
theorem sX9_looksAt  (r0 : Nat) (v1 : Int32) (v2 : Int32) : Sm mX9_looksAt rV 0 0 0 [some (.ref r0), some (.int v1), some (.int v2), none, none, none, none, none] [] (fX9_looksAt r0 v1 v2) := by
  unfold fX9_looksAt
  refine S_aload_n (pc := 0) dX9_looksAt_0 rfl ?_
  refine S_iconst (pc := 1) (v := (nI 0)) dX9_looksAt_1 kI_0 ?_
  refine S_pI (pc := 2) fl_X9_202 rfl rfl dX9_looksAt_2 ?_
  refine S_aload_n (pc := 5) dX9_looksAt_5 rfl ?_
  refine S_bipush (pc := 6) (v := (-2 : Int32)) dX9_looksAt_6 kB_m2 ?_
  refine S_pI (pc := 8) fl_X9_205 rfl rfl dX9_looksAt_8 ?_
  refine S_aload_n (pc := 11) dX9_looksAt_11 rfl ?_
  refine S_iconst (pc := 12) (v := (nI 0)) dX9_looksAt_12 kI_0 ?_
  refine S_pI (pc := 13) fl_X9_208 rfl rfl dX9_looksAt_13 ?_
  refine S_aload_n (pc := 16) dX9_looksAt_16 rfl ?_
  refine S_bipush (pc := 17) (v := (-2 : Int32)) dX9_looksAt_17 kB_m2 ?_
  refine S_pI (pc := 19) fl_X9_211 rfl rfl dX9_looksAt_19 ?_
  refine S_iconst (pc := 22) (v := (nI 0)) dX9_looksAt_22 kI_0 ?_
  refine Z_istore_n (pc := 23) (lv' := [some (.ref r0), some (.int v1), some (.int v2), some (.int (nI 0)), none, none, none, none]) dX9_looksAt_23 rfl rfl rfl ?_
  exact (sX9_looksAt_24 fuel r0 v1 v2 (nI 0))
theorem ktX9_looksAt (r0 : Nat) (v1 : Int32) (v2 : Int32) : Ct mX9_looksAt rV [.ref r0, .int v1, .int v2] (fX9_looksAt r0 v1 v2) := Ct.of (z := 5) pn_X9 rfl rfl rfl (sX9_looksAt r0 v1 v2)
def mX9_selectedBy : MI := (yX9_selectedBy, cX9_selectedBy, 7, (some .int), { frames := 6, cells := 0, slots := 0, locals := 148 }, [])
theorem mw_X9_selectedBy : MW mX9_selectedBy 4 := ⟨w1313, w11, ⟨by decide, by decide⟩, by decide +kernel⟩
theorem mv_X9_selectedBy : MV mX9_selectedBy 9 := ⟨_, rfl, w1312, wp64⟩
def fX9_selectedBy_64 (k22 : Nat → Int32 → Int32 → Int32 → Int32 → AH → Option (Int32 × AH)) (r0 : Nat) (v1 : Int32) (v4 : Int32) (v5 : Int32) (s0 : Int32) : AH → Option (Int32 × AH) := fun h =>
  k22 r0 v1 v4 v5 s0 h
def fX9_selectedBy_69  (r0 : Nat) (v1 : Int32) (v4 : Int32) (v5 : Int32) : AH → Option (Int32 × AH) := fun h =>
  cv 9 r0 (fX9_isCandidate r0 v1 v5) h fun x_15 h =>
  if x_15 = 0 then (
    cv 9 r0 (fX9_looksAt r0 v1 v4) h fun _ h =>
    (gI 9 r0 13 h).bind fun x_16 =>
    if x_16 = (nI 1) then (
      (gI 9 r0 14 h).bind fun x_17 =>
      some (x_17, h))
    else
    some ((-2 : Int32), h))
  else
  some (v5, h)
def bX9_selectedBy_22  (k22 : Nat → Int32 → Int32 → Int32 → Int32 → AH → Option (Int32 × AH)) (r0 : Nat) (v1 : Int32) (v4 : Int32) (v5 : Int32) (v6 : Int32) : AH → Option (Int32 × AH) := fun h =>
  cv 9 r0 (fX9_isCandidate r0 v1 v5) h fun x_18 h =>
  if x_18 = 0 then (
    if v6 < 0 then (
      fX9_selectedBy_69 r0 v1 v4 v5 h)
    else
    cv 9 r0 (fX9_own r0 v1 v6) h fun x_19 h =>
    if v6 = 0 then (
      fX9_selectedBy_64 k22 r0 v1 v4 x_19 (-2 : Int32) h)
    else
    cv 9 r0 (fX9_of r0 v1 v6 (nI 2)) h fun x_20 h =>
    fX9_selectedBy_64 k22 r0 v1 v4 x_19 x_20 h)
  else
  fX9_selectedBy_69 r0 v1 v4 v5 h
def lX9_selectedBy_22  : Nat → Nat → Int32 → Int32 → Int32 → Int32 → AH → Option (Int32 × AH)
  | 0 => fun _ _ _ _ _ _ => none
  | n + 1 => bX9_selectedBy_22 (lX9_selectedBy_22 n)
def fX9_selectedBy_17  (r0 : Nat) (v1 : Int32) (v3 : Int32) (v4 : Int32) (s0 : Int32) : AH → Option (Int32 × AH) := fun h =>
  lX9_selectedBy_22 fuel r0 v1 v4 s0 v3 h
def fX9_selectedBy  (r0 : Nat) (v1 : Int32) (v2 : Int32) (v3 : Int32) (v4 : Int32) : AH → Option (Int32 × AH) := fun h =>
  if v2 = (-2 : Int32) then (
    fX9_selectedBy_17 r0 v1 v3 v4 (-2 : Int32) h)
  else
  cv 9 r0 (fX9_own r0 v1 v2) h fun x_21 h =>
  fX9_selectedBy_17 r0 v1 v3 v4 x_21 h
theorem sX9_selectedBy_64 {k22 : Nat → Int32 → Int32 → Int32 → Int32 → AH → Option (Int32 × AH)} (h22 : ∀ (r0 : Nat) (v1 : Int32) (v4 : Int32) (v5 : Int32) (v6 : Int32), Sm mX9_selectedBy rI 0 0 22 [some (.ref r0), some (.int v1), none, none, some (.int v4), some (.int v5), some (.int v6)] [] (k22 r0 v1 v4 v5 v6)) (r0 : Nat) (v1 : Int32) (v4 : Int32) (v5 : Int32) (s0 : Int32) : Sm mX9_selectedBy rI 0 0 64 [some (.ref r0), some (.int v1), none, none, some (.int v4), some (.int v5), none] [.int s0] (fX9_selectedBy_64 k22 r0 v1 v4 v5 s0) := by
  unfold fX9_selectedBy_64
  refine Z_istore (pc := 64) (lv' := [some (.ref r0), some (.int v1), none, none, some (.int v4), some (.int v5), some (.int s0)]) dX9_selectedBy_64 rfl rfl rfl ?_
  refine S_goto (pc := 66) (tgt := 22) dX9_selectedBy_66 (by decide) ?_
  exact (h22 r0 v1 v4 v5 s0)
theorem sX9_selectedBy_69  (r0 : Nat) (v1 : Int32) (v4 : Int32) (v5 : Int32) : Sm mX9_selectedBy rI 0 0 69 [some (.ref r0), some (.int v1), none, none, some (.int v4), some (.int v5), none] [] (fX9_selectedBy_69 r0 v1 v4 v5) := by
  unfold fX9_selectedBy_69
  refine S_aload_n (pc := 69) dX9_selectedBy_69 rfl ?_
  refine S_iload_n (pc := 70) dX9_selectedBy_70 rfl ?_
  refine S_iload (pc := 71) dX9_selectedBy_71 rfl ?_
  refine Y_Vi (pc := 73) (st := []) (kc' := 0) (ks' := 0) (ktX9_isCandidate r0 v1 v5) mw_X9_isCandidate mv_X9_isCandidate w1318 (RO.mk rfl rfl rfl rfl) rfl rfl rfl dX9_selectedBy_73 ⟨rfl, rfl⟩ (fun x_15 => ?_)
  refine S_ifeq (pc := 76) (tgt := 82) dX9_selectedBy_76 (by decide) ?_ ?_
  · refine S_aload_n (pc := 82) dX9_selectedBy_82 rfl ?_
    refine S_iload_n (pc := 83) dX9_selectedBy_83 rfl ?_
    refine S_iload (pc := 84) dX9_selectedBy_84 rfl ?_
    refine Y_Vv (pc := 86) (st := []) (kc' := 0) (ks' := 0) (ktX9_looksAt r0 v1 v4) mw_X9_looksAt mv_X9_looksAt w1322 (RO.mk rfl rfl rfl rfl) rfl rfl rfl dX9_selectedBy_86 ⟨rfl, rfl⟩ ?_
    refine S_aload_n (pc := 89) dX9_selectedBy_89 rfl ?_
    refine S_gI (pc := 90) fl_X9_208 rfl dX9_selectedBy_90 (fun x_16 => ?_)
    refine S_iconst (pc := 93) (v := (nI 1)) dX9_selectedBy_93 kI_1 ?_
    refine S_icmpne (pc := 94) (tgt := 104) dX9_selectedBy_94 (by decide) ?_ ?_
    · refine S_bipush (pc := 104) (v := (-2 : Int32)) dX9_selectedBy_104 kB_m2 ?_
      exact S_iret (pc := 106) ⟨rfl, rfl⟩ rfl rfl dX9_selectedBy_106
    · refine S_aload_n (pc := 97) dX9_selectedBy_97 rfl ?_
      refine S_gI (pc := 98) fl_X9_211 rfl dX9_selectedBy_98 (fun x_17 => ?_)
      refine S_goto (pc := 101) (tgt := 106) dX9_selectedBy_101 (by decide) ?_
      exact S_iret (pc := 106) ⟨rfl, rfl⟩ rfl rfl dX9_selectedBy_106
  · refine S_iload (pc := 79) dX9_selectedBy_79 rfl ?_
    exact S_iret (pc := 81) ⟨rfl, rfl⟩ rfl rfl dX9_selectedBy_81
theorem sbX9_selectedBy_22  {k22 : Nat → Int32 → Int32 → Int32 → Int32 → AH → Option (Int32 × AH)} (h22 : ∀ (r0 : Nat) (v1 : Int32) (v4 : Int32) (v5 : Int32) (v6 : Int32), Sm mX9_selectedBy rI 0 0 22 [some (.ref r0), some (.int v1), none, none, some (.int v4), some (.int v5), some (.int v6)] [] (k22 r0 v1 v4 v5 v6)) (r0 : Nat) (v1 : Int32) (v4 : Int32) (v5 : Int32) (v6 : Int32) : Sm mX9_selectedBy rI 0 0 22 [some (.ref r0), some (.int v1), none, none, some (.int v4), some (.int v5), some (.int v6)] [] (bX9_selectedBy_22 k22 r0 v1 v4 v5 v6) := by
  unfold bX9_selectedBy_22
  refine S_aload_n (pc := 22) dX9_selectedBy_22 rfl ?_
  refine S_iload_n (pc := 23) dX9_selectedBy_23 rfl ?_
  refine S_iload (pc := 24) dX9_selectedBy_24 rfl ?_
  refine Y_Vi (pc := 26) (st := []) (kc' := 0) (ks' := 0) (ktX9_isCandidate r0 v1 v5) mw_X9_isCandidate mv_X9_isCandidate w1318 (RO.mk rfl rfl rfl rfl) rfl rfl rfl dX9_selectedBy_26 ⟨rfl, rfl⟩ (fun x_18 => ?_)
  refine S_ifne (pc := 29) (tgt := 69) dX9_selectedBy_29 (by decide) ?_ ?_
  · exact (S_lv (lv0 := [some (.ref r0), some (.int v1), none, none, some (.int v4), some (.int v5), none]) (And.intro rfl (And.intro rfl (And.intro rfl (And.intro rfl trivial)))) (sX9_selectedBy_69 r0 v1 v4 v5))
  · refine S_iload (pc := 32) dX9_selectedBy_32 rfl ?_
    refine S_iflt (pc := 34) (tgt := 69) dX9_selectedBy_34 (by decide) ?_ ?_
    · exact (S_lv (lv0 := [some (.ref r0), some (.int v1), none, none, some (.int v4), some (.int v5), none]) (And.intro rfl (And.intro rfl (And.intro rfl (And.intro rfl trivial)))) (sX9_selectedBy_69 r0 v1 v4 v5))
    · refine S_aload_n (pc := 37) dX9_selectedBy_37 rfl ?_
      refine S_iload_n (pc := 38) dX9_selectedBy_38 rfl ?_
      refine S_iload (pc := 39) dX9_selectedBy_39 rfl ?_
      refine Y_Vi (pc := 41) (st := []) (kc' := 0) (ks' := 0) (ktX9_own r0 v1 v6) mw_X9_own mv_X9_own w1314 (RO.mk rfl rfl rfl rfl) rfl rfl rfl dX9_selectedBy_41 ⟨rfl, rfl⟩ (fun x_19 => ?_)
      refine Z_istore (pc := 44) (lv' := [some (.ref r0), some (.int v1), none, none, some (.int v4), some (.int x_19), some (.int v6)]) dX9_selectedBy_44 rfl rfl rfl ?_
      refine S_iload (pc := 46) dX9_selectedBy_46 rfl ?_
      refine S_ifne (pc := 48) (tgt := 56) dX9_selectedBy_48 (by decide) ?_ ?_
      · refine S_aload_n (pc := 56) dX9_selectedBy_56 rfl ?_
        refine S_iload_n (pc := 57) dX9_selectedBy_57 rfl ?_
        refine S_iload (pc := 58) dX9_selectedBy_58 rfl ?_
        refine S_iconst (pc := 60) (v := (nI 2)) dX9_selectedBy_60 kI_2 ?_
        refine Y_Vi (pc := 61) (st := []) (kc' := 0) (ks' := 0) (ktX9_of r0 v1 v6 (nI 2)) mw_X9_of mv_X9_of w1219 (RO.mk rfl rfl rfl rfl) rfl rfl rfl dX9_selectedBy_61 ⟨rfl, rfl⟩ (fun x_20 => ?_)
        exact (S_lv (lv0 := [some (.ref r0), some (.int v1), none, none, some (.int v4), some (.int x_19), none]) (And.intro rfl (And.intro rfl (And.intro rfl (And.intro rfl trivial)))) (sX9_selectedBy_64 h22 r0 v1 v4 x_19 x_20))
      · refine S_bipush (pc := 51) (v := (-2 : Int32)) dX9_selectedBy_51 kB_m2 ?_
        refine S_goto (pc := 53) (tgt := 64) dX9_selectedBy_53 (by decide) ?_
        exact (S_lv (lv0 := [some (.ref r0), some (.int v1), none, none, some (.int v4), some (.int x_19), none]) (And.intro rfl (And.intro rfl (And.intro rfl (And.intro rfl trivial)))) (sX9_selectedBy_64 h22 r0 v1 v4 x_19 (-2 : Int32)))
theorem sX9_selectedBy_22  : ∀ (n : Nat) (r0 : Nat) (v1 : Int32) (v4 : Int32) (v5 : Int32) (v6 : Int32), Sm mX9_selectedBy rI 0 0 22 [some (.ref r0), some (.int v1), none, none, some (.int v4), some (.int v5), some (.int v6)] [] (lX9_selectedBy_22 n r0 v1 v4 v5 v6)
  | 0, _, _, _, _, _ => S_none
  | n + 1, r0, v1, v4, v5, v6 => sbX9_selectedBy_22 (sX9_selectedBy_22 n) r0 v1 v4 v5 v6
theorem sX9_selectedBy_17  (r0 : Nat) (v1 : Int32) (v3 : Int32) (v4 : Int32) (s0 : Int32) : Sm mX9_selectedBy rI 0 0 17 [some (.ref r0), some (.int v1), none, some (.int v3), some (.int v4), none, none] [.int s0] (fX9_selectedBy_17 r0 v1 v3 v4 s0) := by
  unfold fX9_selectedBy_17
  refine Z_istore (pc := 17) (lv' := [some (.ref r0), some (.int v1), none, some (.int v3), some (.int v4), some (.int s0), none]) dX9_selectedBy_17 rfl rfl rfl ?_
  refine S_iload_n (pc := 19) dX9_selectedBy_19 rfl ?_
  refine Z_istore (pc := 20) (lv' := [some (.ref r0), some (.int v1), none, some (.int v3), some (.int v4), some (.int s0), some (.int v3)]) dX9_selectedBy_20 rfl rfl rfl ?_
  exact (S_lv (lv0 := [some (.ref r0), some (.int v1), none, none, some (.int v4), some (.int s0), some (.int v3)]) (And.intro rfl (And.intro rfl (And.intro rfl (And.intro rfl (And.intro rfl trivial))))) (sX9_selectedBy_22 fuel r0 v1 v4 s0 v3))
theorem sX9_selectedBy  (r0 : Nat) (v1 : Int32) (v2 : Int32) (v3 : Int32) (v4 : Int32) : Sm mX9_selectedBy rI 0 0 0 [some (.ref r0), some (.int v1), some (.int v2), some (.int v3), some (.int v4), none, none] [] (fX9_selectedBy r0 v1 v2 v3 v4) := by
  unfold fX9_selectedBy
  refine S_iload_n (pc := 0) dX9_selectedBy_0 rfl ?_
  refine S_bipush (pc := 1) (v := (-2 : Int32)) dX9_selectedBy_1 kB_m2 ?_
  refine S_icmpne (pc := 3) (tgt := 11) dX9_selectedBy_3 (by decide) ?_ ?_
  · refine S_aload_n (pc := 11) dX9_selectedBy_11 rfl ?_
    refine S_iload_n (pc := 12) dX9_selectedBy_12 rfl ?_
    refine S_iload_n (pc := 13) dX9_selectedBy_13 rfl ?_
    refine Y_Vi (pc := 14) (st := []) (kc' := 0) (ks' := 0) (ktX9_own r0 v1 v2) mw_X9_own mv_X9_own w1314 (RO.mk rfl rfl rfl rfl) rfl rfl rfl dX9_selectedBy_14 ⟨rfl, rfl⟩ (fun x_21 => ?_)
    exact (S_lv (lv0 := [some (.ref r0), some (.int v1), none, some (.int v3), some (.int v4), none, none]) (And.intro rfl (And.intro rfl (And.intro rfl (And.intro rfl trivial)))) (sX9_selectedBy_17 r0 v1 v3 v4 x_21))
  · refine S_bipush (pc := 6) (v := (-2 : Int32)) dX9_selectedBy_6 kB_m2 ?_
    refine S_goto (pc := 8) (tgt := 17) dX9_selectedBy_8 (by decide) ?_
    exact (S_lv (lv0 := [some (.ref r0), some (.int v1), none, some (.int v3), some (.int v4), none, none]) (And.intro rfl (And.intro rfl (And.intro rfl (And.intro rfl trivial)))) (sX9_selectedBy_17 r0 v1 v3 v4 (-2 : Int32)))
theorem ktX9_selectedBy (r0 : Nat) (v1 : Int32) (v2 : Int32) (v3 : Int32) (v4 : Int32) : Ct mX9_selectedBy rI [.ref r0, .int v1, .int v2, .int v3, .int v4] (fX9_selectedBy r0 v1 v2 v3 v4) := Ct.of (z := 2) pn_X9 rfl rfl rfl (sX9_selectedBy r0 v1 v2 v3 v4)
def mX9_isIncomplete : MI := (yX9_isIncomplete, cX9_isIncomplete, 9, (some .boolean), { frames := 7, cells := 0, slots := 0, locals := 174 }, [])
theorem mw_X9_isIncomplete : MW mX9_isIncomplete 3 := ⟨w1301, w11, ⟨by decide, by decide⟩, by decide +kernel⟩
theorem mv_X9_isIncomplete : MV mX9_isIncomplete 9 := ⟨_, rfl, w1300, wp61⟩
def fX9_isIncomplete_175 (k43 : Nat → Int32 → Int32 → Int32 → Int32 → Int32 → Int32 → Int32 → AH → Option (Int32 × AH)) (r0 : Nat) (v1 : Int32) (v2 : Int32) (v3 : Int32) (v4 : Int32) (v5 : Int32) (v6 : Int32) (v7 : Int32) : AH → Option (Int32 × AH) := fun h =>
  k43 r0 v1 v2 v3 v4 v5 v6 (v7 + (nI 1)) h
def fX9_isIncomplete_173 (k43 : Nat → Int32 → Int32 → Int32 → Int32 → Int32 → Int32 → Int32 → AH → Option (Int32 × AH)) (r0 : Nat) (v1 : Int32) (v2 : Int32) (v3 : Int32) (v4 : Int32) (v5 : Int32) (v7 : Int32) (s0 : Int32) : AH → Option (Int32 × AH) := fun h =>
  fX9_isIncomplete_175 k43 r0 v1 v2 v3 v4 v5 s0 v7 h
def fX9_isIncomplete_149 (k43 : Nat → Int32 → Int32 → Int32 → Int32 → Int32 → Int32 → Int32 → AH → Option (Int32 × AH)) (r0 : Nat) (v1 : Int32) (v2 : Int32) (v3 : Int32) (v4 : Int32) (v5 : Int32) (v7 : Int32) (s0 : Int32) : AH → Option (Int32 × AH) := fun h =>
  if s0 = (-2 : Int32) then (
    fX9_isIncomplete_173 k43 r0 v1 v2 v3 v4 v5 v7 (nI 1) h)
  else
  cv 9 r0 (fX9_isAbstract r0 v1 s0) h fun x_23 h =>
  if x_23 = 0 then (
    fX9_isIncomplete_173 k43 r0 v1 v2 v3 v4 v5 v7 (nI 0) h)
  else
  fX9_isIncomplete_173 k43 r0 v1 v2 v3 v4 v5 v7 (nI 1) h
def fX9_isIncomplete_138 (k43 : Nat → Int32 → Int32 → Int32 → Int32 → Int32 → Int32 → Int32 → AH → Option (Int32 × AH)) (r0 : Nat) (v1 : Int32) (v2 : Int32) (v3 : Int32) (v4 : Int32) (v5 : Int32) (v7 : Int32) (s0 : Nat) (s1 : Int32) (s2 : Int32) (s3 : Int32) : AH → Option (Int32 × AH) := fun h =>
  cv 9 s0 (fX9_selectedBy s0 s1 s2 s3 (v5 &&& (((nI 1) <<< (v2 &&& 31)) ^^^ (-1 : Int32)))) h fun x_24 h =>
  fX9_isIncomplete_149 k43 r0 v1 v2 v3 v4 v5 v7 x_24 h
def bX9_isIncomplete_43  (k43 : Nat → Int32 → Int32 → Int32 → Int32 → Int32 → Int32 → Int32 → AH → Option (Int32 × AH)) (r0 : Nat) (v1 : Int32) (v2 : Int32) (v3 : Int32) (v4 : Int32) (v5 : Int32) (v6 : Int32) (v7 : Int32) : AH → Option (Int32 × AH) := fun h =>
  cv 9 r0 (fX9_memberMany r0 v1) h fun x_25 h =>
  if x_25 ≤ v7 then (
    rz v6 v6 h)
  else
  if v6 = 0 then (
    cv 9 r0 (fX9_its r0 v1 v7 (nI 1)) h fun x_26 h =>
    bd (fX9_has v5 x_26 h) fun x_27 h =>
    if x_27 = 0 then (
      fX9_isIncomplete_175 k43 r0 v1 v2 v3 v4 v5 v6 v7 h)
    else
    cv 9 r0 (fX9_isMethod r0 v1 v7) h fun x_28 h =>
    if x_28 = 0 then (
      fX9_isIncomplete_175 k43 r0 v1 v2 v3 v4 v5 v6 v7 h)
    else
    cv 9 r0 (fX9_isAbstract r0 v1 v7) h fun x_29 h =>
    if x_29 = 0 then (
      fX9_isIncomplete_175 k43 r0 v1 v2 v3 v4 v5 v6 v7 h)
    else
    cv 9 r0 (fX9_wantsLike r0 v1 v7) h fun _ h =>
    if v4 = 0 then (
      if v2 = 0 then (
        fX9_isIncomplete_138 k43 r0 v1 v2 v3 v4 v5 v7 r0 v1 v2 (-2 : Int32) h)
      else
      cv 9 r0 (fX9_of r0 v1 v2 (nI 2)) h fun x_30 h =>
      fX9_isIncomplete_138 k43 r0 v1 v2 v3 v4 v5 v7 r0 v1 v2 x_30 h)
    else
    cv 9 r0 (fX9_selectedBy r0 v1 (-2 : Int32) v3 v5) h fun x_31 h =>
    fX9_isIncomplete_149 k43 r0 v1 v2 v3 v4 v5 v7 x_31 h)
  else
  rz v6 v6 h
def lX9_isIncomplete_43  : Nat → Nat → Int32 → Int32 → Int32 → Int32 → Int32 → Int32 → Int32 → AH → Option (Int32 × AH)
  | 0 => fun _ _ _ _ _ _ _ _ _ => none
  | n + 1 => bX9_isIncomplete_43 (lX9_isIncomplete_43 n)
def fX9_isIncomplete_34  (r0 : Nat) (v1 : Int32) (v2 : Int32) (v3 : Int32) (v4 : Int32) (s0 : Int32) (s1 : Int32) : AH → Option (Int32 × AH) := fun h =>
  lX9_isIncomplete_43 fuel r0 v1 v2 v3 v4 (s0 ||| s1) (nI 0) (nI 0) h
def fX9_isIncomplete_11  (r0 : Nat) (v1 : Int32) (v2 : Int32) (v3 : Int32) (s0 : Int32) : AH → Option (Int32 × AH) := fun h =>
  cv 9 r0 (fX9_supertypes r0 v1 v2) h fun x_32 h =>
  if s0 = 0 then (
    fX9_isIncomplete_34 r0 v1 v2 v3 s0 x_32 (nI 0) h)
  else
  cv 9 r0 (fX9_supertypes r0 v1 v3) h fun x_33 h =>
  fX9_isIncomplete_34 r0 v1 v2 v3 s0 x_32 x_33 h
def fX9_isIncomplete  (r0 : Nat) (v1 : Int32) (v2 : Int32) (v3 : Int32) : AH → Option (Int32 × AH) := fun h =>
  if v3 = (-2 : Int32) then (
    fX9_isIncomplete_11 r0 v1 v2 v3 (nI 0) h)
  else
  fX9_isIncomplete_11 r0 v1 v2 v3 (nI 1) h
theorem sX9_isIncomplete_175 {k43 : Nat → Int32 → Int32 → Int32 → Int32 → Int32 → Int32 → Int32 → AH → Option (Int32 × AH)} (h43 : ∀ (r0 : Nat) (v1 : Int32) (v2 : Int32) (v3 : Int32) (v4 : Int32) (v5 : Int32) (v6 : Int32) (v7 : Int32), Sm mX9_isIncomplete rI 0 0 43 [some (.ref r0), some (.int v1), some (.int v2), some (.int v3), some (.int v4), some (.int v5), some (.int v6), some (.int v7), none] [] (k43 r0 v1 v2 v3 v4 v5 v6 v7)) (r0 : Nat) (v1 : Int32) (v2 : Int32) (v3 : Int32) (v4 : Int32) (v5 : Int32) (v6 : Int32) (v7 : Int32) : Sm mX9_isIncomplete rI 0 0 175 [some (.ref r0), some (.int v1), some (.int v2), some (.int v3), some (.int v4), some (.int v5), some (.int v6), some (.int v7), none] [] (fX9_isIncomplete_175 k43 r0 v1 v2 v3 v4 v5 v6 v7) := by
  unfold fX9_isIncomplete_175
  refine Z_iinc (pc := 175) (v := (nI 1)) (lv' := [some (.ref r0), some (.int v1), some (.int v2), some (.int v3), some (.int v4), some (.int v5), some (.int v6), some (.int (v7 + (nI 1))), none]) dX9_isIncomplete_175 rfl kI_1 rfl rfl rfl ?_
  refine S_goto (pc := 178) (tgt := 43) dX9_isIncomplete_178 (by decide) ?_
  exact (h43 r0 v1 v2 v3 v4 v5 v6 (v7 + (nI 1)))
theorem sX9_isIncomplete_173 {k43 : Nat → Int32 → Int32 → Int32 → Int32 → Int32 → Int32 → Int32 → AH → Option (Int32 × AH)} (h43 : ∀ (r0 : Nat) (v1 : Int32) (v2 : Int32) (v3 : Int32) (v4 : Int32) (v5 : Int32) (v6 : Int32) (v7 : Int32), Sm mX9_isIncomplete rI 0 0 43 [some (.ref r0), some (.int v1), some (.int v2), some (.int v3), some (.int v4), some (.int v5), some (.int v6), some (.int v7), none] [] (k43 r0 v1 v2 v3 v4 v5 v6 v7)) (r0 : Nat) (v1 : Int32) (v2 : Int32) (v3 : Int32) (v4 : Int32) (v5 : Int32) (v7 : Int32) (s0 : Int32) : Sm mX9_isIncomplete rI 0 0 173 [some (.ref r0), some (.int v1), some (.int v2), some (.int v3), some (.int v4), some (.int v5), none, some (.int v7), none] [.int s0] (fX9_isIncomplete_173 k43 r0 v1 v2 v3 v4 v5 v7 s0) := by
  unfold fX9_isIncomplete_173
  refine Z_istore (pc := 173) (lv' := [some (.ref r0), some (.int v1), some (.int v2), some (.int v3), some (.int v4), some (.int v5), some (.int s0), some (.int v7), none]) dX9_isIncomplete_173 rfl rfl rfl ?_
  exact (sX9_isIncomplete_175 h43 r0 v1 v2 v3 v4 v5 s0 v7)
theorem sX9_isIncomplete_149 {k43 : Nat → Int32 → Int32 → Int32 → Int32 → Int32 → Int32 → Int32 → AH → Option (Int32 × AH)} (h43 : ∀ (r0 : Nat) (v1 : Int32) (v2 : Int32) (v3 : Int32) (v4 : Int32) (v5 : Int32) (v6 : Int32) (v7 : Int32), Sm mX9_isIncomplete rI 0 0 43 [some (.ref r0), some (.int v1), some (.int v2), some (.int v3), some (.int v4), some (.int v5), some (.int v6), some (.int v7), none] [] (k43 r0 v1 v2 v3 v4 v5 v6 v7)) (r0 : Nat) (v1 : Int32) (v2 : Int32) (v3 : Int32) (v4 : Int32) (v5 : Int32) (v7 : Int32) (s0 : Int32) : Sm mX9_isIncomplete rI 0 0 149 [some (.ref r0), some (.int v1), some (.int v2), some (.int v3), some (.int v4), some (.int v5), none, some (.int v7), none] [.int s0] (fX9_isIncomplete_149 k43 r0 v1 v2 v3 v4 v5 v7 s0) := by
  unfold fX9_isIncomplete_149
  refine Z_istore (pc := 149) (lv' := [some (.ref r0), some (.int v1), some (.int v2), some (.int v3), some (.int v4), some (.int v5), none, some (.int v7), some (.int s0)]) dX9_isIncomplete_149 rfl rfl rfl ?_
  refine S_iload (pc := 151) dX9_isIncomplete_151 rfl ?_
  refine S_bipush (pc := 153) (v := (-2 : Int32)) dX9_isIncomplete_153 kB_m2 ?_
  refine S_icmpeq (pc := 155) (tgt := 168) dX9_isIncomplete_155 (by decide) ?_ ?_
  · refine S_iconst (pc := 168) (v := (nI 1)) dX9_isIncomplete_168 kI_1 ?_
    refine S_goto (pc := 169) (tgt := 173) dX9_isIncomplete_169 (by decide) ?_
    exact (S_lv (lv0 := [some (.ref r0), some (.int v1), some (.int v2), some (.int v3), some (.int v4), some (.int v5), none, some (.int v7), none]) (And.intro rfl (And.intro rfl (And.intro rfl (And.intro rfl (And.intro rfl (And.intro rfl (And.intro rfl trivial))))))) (sX9_isIncomplete_173 h43 r0 v1 v2 v3 v4 v5 v7 (nI 1)))
  · refine S_aload_n (pc := 158) dX9_isIncomplete_158 rfl ?_
    refine S_iload_n (pc := 159) dX9_isIncomplete_159 rfl ?_
    refine S_iload (pc := 160) dX9_isIncomplete_160 rfl ?_
    refine Y_Vi (pc := 162) (st := []) (kc' := 0) (ks' := 0) (ktX9_isAbstract r0 v1 s0) mw_X9_isAbstract mv_X9_isAbstract w1294 (RO.mk rfl rfl rfl rfl) rfl rfl rfl dX9_isIncomplete_162 ⟨rfl, rfl⟩ (fun x_23 => ?_)
    refine S_ifeq (pc := 165) (tgt := 172) dX9_isIncomplete_165 (by decide) ?_ ?_
    · refine S_iconst (pc := 172) (v := (nI 0)) dX9_isIncomplete_172 kI_0 ?_
      exact (S_lv (lv0 := [some (.ref r0), some (.int v1), some (.int v2), some (.int v3), some (.int v4), some (.int v5), none, some (.int v7), none]) (And.intro rfl (And.intro rfl (And.intro rfl (And.intro rfl (And.intro rfl (And.intro rfl (And.intro rfl trivial))))))) (sX9_isIncomplete_173 h43 r0 v1 v2 v3 v4 v5 v7 (nI 0)))
    · refine S_iconst (pc := 168) (v := (nI 1)) dX9_isIncomplete_168 kI_1 ?_
      refine S_goto (pc := 169) (tgt := 173) dX9_isIncomplete_169 (by decide) ?_
      exact (S_lv (lv0 := [some (.ref r0), some (.int v1), some (.int v2), some (.int v3), some (.int v4), some (.int v5), none, some (.int v7), none]) (And.intro rfl (And.intro rfl (And.intro rfl (And.intro rfl (And.intro rfl (And.intro rfl (And.intro rfl trivial))))))) (sX9_isIncomplete_173 h43 r0 v1 v2 v3 v4 v5 v7 (nI 1)))
theorem sX9_isIncomplete_138 {k43 : Nat → Int32 → Int32 → Int32 → Int32 → Int32 → Int32 → Int32 → AH → Option (Int32 × AH)} (h43 : ∀ (r0 : Nat) (v1 : Int32) (v2 : Int32) (v3 : Int32) (v4 : Int32) (v5 : Int32) (v6 : Int32) (v7 : Int32), Sm mX9_isIncomplete rI 0 0 43 [some (.ref r0), some (.int v1), some (.int v2), some (.int v3), some (.int v4), some (.int v5), some (.int v6), some (.int v7), none] [] (k43 r0 v1 v2 v3 v4 v5 v6 v7)) (r0 : Nat) (v1 : Int32) (v2 : Int32) (v3 : Int32) (v4 : Int32) (v5 : Int32) (v7 : Int32) (s0 : Nat) (s1 : Int32) (s2 : Int32) (s3 : Int32) : Sm mX9_isIncomplete rI 0 0 138 [some (.ref r0), some (.int v1), some (.int v2), some (.int v3), some (.int v4), some (.int v5), none, some (.int v7), none] [.int s3, .int s2, .int s1, .ref s0] (fX9_isIncomplete_138 k43 r0 v1 v2 v3 v4 v5 v7 s0 s1 s2 s3) := by
  unfold fX9_isIncomplete_138
  refine S_iload (pc := 138) dX9_isIncomplete_138 rfl ?_
  refine S_iconst (pc := 140) (v := (nI 1)) dX9_isIncomplete_140 kI_1 ?_
  refine S_iload_n (pc := 141) dX9_isIncomplete_141 rfl ?_
  refine S_ishl (pc := 142) dX9_isIncomplete_142 ?_
  refine S_iconst (pc := 143) (v := (-1 : Int32)) dX9_isIncomplete_143 kI_m1 ?_
  refine S_ixor (pc := 144) dX9_isIncomplete_144 ?_
  refine S_iand (pc := 145) dX9_isIncomplete_145 ?_
  refine Y_Vi (pc := 146) (st := []) (kc' := 0) (ks' := 0) (ktX9_selectedBy s0 s1 s2 s3 (v5 &&& (((nI 1) <<< (v2 &&& 31)) ^^^ (-1 : Int32)))) mw_X9_selectedBy mv_X9_selectedBy w1310 (RO.mk rfl rfl rfl rfl) rfl rfl rfl dX9_isIncomplete_146 ⟨rfl, rfl⟩ (fun x_24 => ?_)
  exact (sX9_isIncomplete_149 h43 r0 v1 v2 v3 v4 v5 v7 x_24)
theorem sbX9_isIncomplete_43  {k43 : Nat → Int32 → Int32 → Int32 → Int32 → Int32 → Int32 → Int32 → AH → Option (Int32 × AH)} (h43 : ∀ (r0 : Nat) (v1 : Int32) (v2 : Int32) (v3 : Int32) (v4 : Int32) (v5 : Int32) (v6 : Int32) (v7 : Int32), Sm mX9_isIncomplete rI 0 0 43 [some (.ref r0), some (.int v1), some (.int v2), some (.int v3), some (.int v4), some (.int v5), some (.int v6), some (.int v7), none] [] (k43 r0 v1 v2 v3 v4 v5 v6 v7)) (r0 : Nat) (v1 : Int32) (v2 : Int32) (v3 : Int32) (v4 : Int32) (v5 : Int32) (v6 : Int32) (v7 : Int32) : Sm mX9_isIncomplete rI 0 0 43 [some (.ref r0), some (.int v1), some (.int v2), some (.int v3), some (.int v4), some (.int v5), some (.int v6), some (.int v7), none] [] (bX9_isIncomplete_43 k43 r0 v1 v2 v3 v4 v5 v6 v7) := by
  unfold bX9_isIncomplete_43
  refine S_iload (pc := 43) dX9_isIncomplete_43 rfl ?_
  refine S_aload_n (pc := 45) dX9_isIncomplete_45 rfl ?_
  refine S_iload_n (pc := 46) dX9_isIncomplete_46 rfl ?_
  refine Y_Vi (pc := 47) (st := [.int v7]) (kc' := 0) (ks' := 0) (ktX9_memberMany r0 v1) mw_X9_memberMany mv_X9_memberMany w1186 (RO.mk rfl rfl rfl rfl) rfl rfl rfl dX9_isIncomplete_47 ⟨rfl, rfl⟩ (fun x_25 => ?_)
  refine S_icmpge (pc := 50) (tgt := 181) dX9_isIncomplete_50 (by decide) ?_ ?_
  · refine S_iload (pc := 181) dX9_isIncomplete_181 rfl ?_
    exact S_zret (pc := 183) ⟨rfl, rfl⟩ rfl rfl dX9_isIncomplete_183
  · refine S_iload (pc := 53) dX9_isIncomplete_53 rfl ?_
    refine S_ifne (pc := 55) (tgt := 181) dX9_isIncomplete_55 (by decide) ?_ ?_
    · refine S_iload (pc := 181) dX9_isIncomplete_181 rfl ?_
      exact S_zret (pc := 183) ⟨rfl, rfl⟩ rfl rfl dX9_isIncomplete_183
    · refine S_iload (pc := 58) dX9_isIncomplete_58 rfl ?_
      refine S_aload_n (pc := 60) dX9_isIncomplete_60 rfl ?_
      refine S_iload_n (pc := 61) dX9_isIncomplete_61 rfl ?_
      refine S_iload (pc := 62) dX9_isIncomplete_62 rfl ?_
      refine S_iconst (pc := 64) (v := (nI 1)) dX9_isIncomplete_64 kI_1 ?_
      refine Y_Vi (pc := 65) (st := [.int v5]) (kc' := 0) (ks' := 0) (ktX9_its r0 v1 v7 (nI 1)) mw_X9_its mv_X9_its w1243 (RO.mk rfl rfl rfl rfl) rfl rfl rfl dX9_isIncomplete_65 ⟨rfl, rfl⟩ (fun x_26 => ?_)
      refine Y_Ti (pc := 68) (st := []) (kc' := 0) (ks' := 0) (ktX9_has v5 x_26) mw_X9_has w1252 w1251 (RO.mk rfl rfl rfl rfl) rfl rfl rfl dX9_isIncomplete_68 ⟨rfl, rfl⟩ (fun x_27 => ?_)
      refine S_ifeq (pc := 71) (tgt := 175) dX9_isIncomplete_71 (by decide) ?_ ?_
      · exact (sX9_isIncomplete_175 h43 r0 v1 v2 v3 v4 v5 v6 v7)
      · refine S_aload_n (pc := 74) dX9_isIncomplete_74 rfl ?_
        refine S_iload_n (pc := 75) dX9_isIncomplete_75 rfl ?_
        refine S_iload (pc := 76) dX9_isIncomplete_76 rfl ?_
        refine Y_Vi (pc := 78) (st := []) (kc' := 0) (ks' := 0) (ktX9_isMethod r0 v1 v7) mw_X9_isMethod mv_X9_isMethod w1278 (RO.mk rfl rfl rfl rfl) rfl rfl rfl dX9_isIncomplete_78 ⟨rfl, rfl⟩ (fun x_28 => ?_)
        refine S_ifeq (pc := 81) (tgt := 175) dX9_isIncomplete_81 (by decide) ?_ ?_
        · exact (sX9_isIncomplete_175 h43 r0 v1 v2 v3 v4 v5 v6 v7)
        · refine S_aload_n (pc := 84) dX9_isIncomplete_84 rfl ?_
          refine S_iload_n (pc := 85) dX9_isIncomplete_85 rfl ?_
          refine S_iload (pc := 86) dX9_isIncomplete_86 rfl ?_
          refine Y_Vi (pc := 88) (st := []) (kc' := 0) (ks' := 0) (ktX9_isAbstract r0 v1 v7) mw_X9_isAbstract mv_X9_isAbstract w1294 (RO.mk rfl rfl rfl rfl) rfl rfl rfl dX9_isIncomplete_88 ⟨rfl, rfl⟩ (fun x_29 => ?_)
          refine S_ifeq (pc := 91) (tgt := 175) dX9_isIncomplete_91 (by decide) ?_ ?_
          · exact (sX9_isIncomplete_175 h43 r0 v1 v2 v3 v4 v5 v6 v7)
          · refine S_aload_n (pc := 94) dX9_isIncomplete_94 rfl ?_
            refine S_iload_n (pc := 95) dX9_isIncomplete_95 rfl ?_
            refine S_iload (pc := 96) dX9_isIncomplete_96 rfl ?_
            refine Y_Vv (pc := 98) (st := []) (kc' := 0) (ks' := 0) (ktX9_wantsLike r0 v1 v7) mw_X9_wantsLike mv_X9_wantsLike w1302 (RO.mk rfl rfl rfl rfl) rfl rfl rfl dX9_isIncomplete_98 ⟨rfl, rfl⟩ ?_
            refine S_iload (pc := 101) dX9_isIncomplete_101 rfl ?_
            refine S_ifeq (pc := 103) (tgt := 119) dX9_isIncomplete_103 (by decide) ?_ ?_
            · refine S_aload_n (pc := 119) dX9_isIncomplete_119 rfl ?_
              refine S_iload_n (pc := 120) dX9_isIncomplete_120 rfl ?_
              refine S_iload_n (pc := 121) dX9_isIncomplete_121 rfl ?_
              refine S_iload_n (pc := 122) dX9_isIncomplete_122 rfl ?_
              refine S_ifne (pc := 123) (tgt := 131) dX9_isIncomplete_123 (by decide) ?_ ?_
              · refine S_aload_n (pc := 131) dX9_isIncomplete_131 rfl ?_
                refine S_iload_n (pc := 132) dX9_isIncomplete_132 rfl ?_
                refine S_iload_n (pc := 133) dX9_isIncomplete_133 rfl ?_
                refine S_iconst (pc := 134) (v := (nI 2)) dX9_isIncomplete_134 kI_2 ?_
                refine Y_Vi (pc := 135) (st := [.int v2, .int v1, .ref r0]) (kc' := 0) (ks' := 0) (ktX9_of r0 v1 v2 (nI 2)) mw_X9_of mv_X9_of w1219 (RO.mk rfl rfl rfl rfl) rfl rfl rfl dX9_isIncomplete_135 ⟨rfl, rfl⟩ (fun x_30 => ?_)
                exact (S_lv (lv0 := [some (.ref r0), some (.int v1), some (.int v2), some (.int v3), some (.int v4), some (.int v5), none, some (.int v7), none]) (And.intro rfl (And.intro rfl (And.intro rfl (And.intro rfl (And.intro rfl (And.intro rfl (And.intro rfl trivial))))))) (sX9_isIncomplete_138 h43 r0 v1 v2 v3 v4 v5 v7 r0 v1 v2 x_30))
              · refine S_bipush (pc := 126) (v := (-2 : Int32)) dX9_isIncomplete_126 kB_m2 ?_
                refine S_goto (pc := 128) (tgt := 138) dX9_isIncomplete_128 (by decide) ?_
                exact (S_lv (lv0 := [some (.ref r0), some (.int v1), some (.int v2), some (.int v3), some (.int v4), some (.int v5), none, some (.int v7), none]) (And.intro rfl (And.intro rfl (And.intro rfl (And.intro rfl (And.intro rfl (And.intro rfl (And.intro rfl trivial))))))) (sX9_isIncomplete_138 h43 r0 v1 v2 v3 v4 v5 v7 r0 v1 v2 (-2 : Int32)))
            · refine S_aload_n (pc := 106) dX9_isIncomplete_106 rfl ?_
              refine S_iload_n (pc := 107) dX9_isIncomplete_107 rfl ?_
              refine S_bipush (pc := 108) (v := (-2 : Int32)) dX9_isIncomplete_108 kB_m2 ?_
              refine S_iload_n (pc := 110) dX9_isIncomplete_110 rfl ?_
              refine S_iload (pc := 111) dX9_isIncomplete_111 rfl ?_
              refine Y_Vi (pc := 113) (st := []) (kc' := 0) (ks' := 0) (ktX9_selectedBy r0 v1 (-2 : Int32) v3 v5) mw_X9_selectedBy mv_X9_selectedBy w1310 (RO.mk rfl rfl rfl rfl) rfl rfl rfl dX9_isIncomplete_113 ⟨rfl, rfl⟩ (fun x_31 => ?_)
              refine S_goto (pc := 116) (tgt := 149) dX9_isIncomplete_116 (by decide) ?_
              exact (S_lv (lv0 := [some (.ref r0), some (.int v1), some (.int v2), some (.int v3), some (.int v4), some (.int v5), none, some (.int v7), none]) (And.intro rfl (And.intro rfl (And.intro rfl (And.intro rfl (And.intro rfl (And.intro rfl (And.intro rfl trivial))))))) (sX9_isIncomplete_149 h43 r0 v1 v2 v3 v4 v5 v7 x_31))
theorem sX9_isIncomplete_43  : ∀ (n : Nat) (r0 : Nat) (v1 : Int32) (v2 : Int32) (v3 : Int32) (v4 : Int32) (v5 : Int32) (v6 : Int32) (v7 : Int32), Sm mX9_isIncomplete rI 0 0 43 [some (.ref r0), some (.int v1), some (.int v2), some (.int v3), some (.int v4), some (.int v5), some (.int v6), some (.int v7), none] [] (lX9_isIncomplete_43 n r0 v1 v2 v3 v4 v5 v6 v7)
  | 0, _, _, _, _, _, _, _, _ => S_none
  | n + 1, r0, v1, v2, v3, v4, v5, v6, v7 => sbX9_isIncomplete_43 (sX9_isIncomplete_43 n) r0 v1 v2 v3 v4 v5 v6 v7
theorem sX9_isIncomplete_34  (r0 : Nat) (v1 : Int32) (v2 : Int32) (v3 : Int32) (v4 : Int32) (s0 : Int32) (s1 : Int32) : Sm mX9_isIncomplete rI 0 0 34 [some (.ref r0), some (.int v1), some (.int v2), some (.int v3), some (.int v4), none, none, none, none] [.int s1, .int s0] (fX9_isIncomplete_34 r0 v1 v2 v3 v4 s0 s1) := by
  unfold fX9_isIncomplete_34
  refine S_ior (pc := 34) dX9_isIncomplete_34 ?_
  refine Z_istore (pc := 35) (lv' := [some (.ref r0), some (.int v1), some (.int v2), some (.int v3), some (.int v4), some (.int (s0 ||| s1)), none, none, none]) dX9_isIncomplete_35 rfl rfl rfl ?_
  refine S_iconst (pc := 37) (v := (nI 0)) dX9_isIncomplete_37 kI_0 ?_
  refine Z_istore (pc := 38) (lv' := [some (.ref r0), some (.int v1), some (.int v2), some (.int v3), some (.int v4), some (.int (s0 ||| s1)), some (.int (nI 0)), none, none]) dX9_isIncomplete_38 rfl rfl rfl ?_
  refine S_iconst (pc := 40) (v := (nI 0)) dX9_isIncomplete_40 kI_0 ?_
  refine Z_istore (pc := 41) (lv' := [some (.ref r0), some (.int v1), some (.int v2), some (.int v3), some (.int v4), some (.int (s0 ||| s1)), some (.int (nI 0)), some (.int (nI 0)), none]) dX9_isIncomplete_41 rfl rfl rfl ?_
  exact (sX9_isIncomplete_43 fuel r0 v1 v2 v3 v4 (s0 ||| s1) (nI 0) (nI 0))
theorem sX9_isIncomplete_11  (r0 : Nat) (v1 : Int32) (v2 : Int32) (v3 : Int32) (s0 : Int32) : Sm mX9_isIncomplete rI 0 0 11 [some (.ref r0), some (.int v1), some (.int v2), some (.int v3), none, none, none, none, none] [.int s0] (fX9_isIncomplete_11 r0 v1 v2 v3 s0) := by
  unfold fX9_isIncomplete_11
  refine Z_istore (pc := 11) (lv' := [some (.ref r0), some (.int v1), some (.int v2), some (.int v3), some (.int s0), none, none, none, none]) dX9_isIncomplete_11 rfl rfl rfl ?_
  refine S_aload_n (pc := 13) dX9_isIncomplete_13 rfl ?_
  refine S_iload_n (pc := 14) dX9_isIncomplete_14 rfl ?_
  refine S_iload_n (pc := 15) dX9_isIncomplete_15 rfl ?_
  refine Y_Vi (pc := 16) (st := []) (kc' := 0) (ks' := 0) (ktX9_supertypes r0 v1 v2) mw_X9_supertypes mv_X9_supertypes w1258 (RO.mk rfl rfl rfl rfl) rfl rfl rfl dX9_isIncomplete_16 ⟨rfl, rfl⟩ (fun x_32 => ?_)
  refine S_iload (pc := 19) dX9_isIncomplete_19 rfl ?_
  refine S_ifeq (pc := 21) (tgt := 33) dX9_isIncomplete_21 (by decide) ?_ ?_
  · refine S_iconst (pc := 33) (v := (nI 0)) dX9_isIncomplete_33 kI_0 ?_
    exact (sX9_isIncomplete_34 r0 v1 v2 v3 s0 x_32 (nI 0))
  · refine S_aload_n (pc := 24) dX9_isIncomplete_24 rfl ?_
    refine S_iload_n (pc := 25) dX9_isIncomplete_25 rfl ?_
    refine S_iload_n (pc := 26) dX9_isIncomplete_26 rfl ?_
    refine Y_Vi (pc := 27) (st := [.int x_32]) (kc' := 0) (ks' := 0) (ktX9_supertypes r0 v1 v3) mw_X9_supertypes mv_X9_supertypes w1258 (RO.mk rfl rfl rfl rfl) rfl rfl rfl dX9_isIncomplete_27 ⟨rfl, rfl⟩ (fun x_33 => ?_)
    refine S_goto (pc := 30) (tgt := 34) dX9_isIncomplete_30 (by decide) ?_
    exact (sX9_isIncomplete_34 r0 v1 v2 v3 s0 x_32 x_33)
theorem sX9_isIncomplete  (r0 : Nat) (v1 : Int32) (v2 : Int32) (v3 : Int32) : Sm mX9_isIncomplete rI 0 0 0 [some (.ref r0), some (.int v1), some (.int v2), some (.int v3), none, none, none, none, none] [] (fX9_isIncomplete r0 v1 v2 v3) := by
  unfold fX9_isIncomplete
  refine S_iload_n (pc := 0) dX9_isIncomplete_0 rfl ?_
  refine S_bipush (pc := 1) (v := (-2 : Int32)) dX9_isIncomplete_1 kB_m2 ?_
  refine S_icmpeq (pc := 3) (tgt := 10) dX9_isIncomplete_3 (by decide) ?_ ?_
  · refine S_iconst (pc := 10) (v := (nI 0)) dX9_isIncomplete_10 kI_0 ?_
    exact (sX9_isIncomplete_11 r0 v1 v2 v3 (nI 0))
  · refine S_iconst (pc := 6) (v := (nI 1)) dX9_isIncomplete_6 kI_1 ?_
    refine S_goto (pc := 7) (tgt := 11) dX9_isIncomplete_7 (by decide) ?_
    exact (sX9_isIncomplete_11 r0 v1 v2 v3 (nI 1))
theorem ktX9_isIncomplete (r0 : Nat) (v1 : Int32) (v2 : Int32) (v3 : Int32) : Ct mX9_isIncomplete rI [.ref r0, .int v1, .int v2, .int v3] (fX9_isIncomplete r0 v1 v2 v3) := Ct.of (z := 5) pn_X9 rfl rfl rfl (sX9_isIncomplete r0 v1 v2 v3)
def mX9_isBase : MI := (yX9_isBase, cX9_isBase, 3, (some .boolean), { frames := 3, cells := 0, slots := 0, locals := 66 }, [])
theorem mw_X9_isBase : MW mX9_isBase 2 := ⟨w1329, w11, ⟨by decide, by decide⟩, by decide +kernel⟩
theorem mv_X9_isBase : MV mX9_isBase 9 := ⟨_, rfl, w1328, wp68⟩
def fX9_isBase  (r0 : Nat) (v1 : Int32) (v2 : Int32) : AH → Option (Int32 × AH) := fun h =>
  cv 9 r0 (fX9_isClass r0 v1 v2) h fun x_5 h =>
  if x_5 = 0 then (
    rz (nI 0) (nI 0) h)
  else
  cv 9 r0 (fX9_isInterface r0 v1 v2) h fun x_6 h =>
  if x_6 = 0 then (
    cv 9 r0 (fX9_of r0 v1 v2 (nI 6)) h fun x_7 h =>
    if x_7 = 0 then (
      cv 9 r0 (fX9_isOpenClass r0 v1 v2) h fun x_8 h =>
      if x_8 = 0 then (
        rz (nI 0) (nI 0) h)
      else
      rz (nI 1) (nI 1) h)
    else
    rz (nI 0) (nI 0) h)
  else
  rz (nI 0) (nI 0) h
theorem sX9_isBase  (r0 : Nat) (v1 : Int32) (v2 : Int32) : Sm mX9_isBase rI 0 0 0 [some (.ref r0), some (.int v1), some (.int v2)] [] (fX9_isBase r0 v1 v2) := by
  unfold fX9_isBase
  refine S_aload_n (pc := 0) dX9_isBase_0 rfl ?_
  refine S_iload_n (pc := 1) dX9_isBase_1 rfl ?_
  refine S_iload_n (pc := 2) dX9_isBase_2 rfl ?_
  refine Y_Vi (pc := 3) (st := []) (kc' := 0) (ks' := 0) (ktX9_isClass r0 v1 v2) mw_X9_isClass mv_X9_isClass w1209 (RO.mk rfl rfl rfl rfl) rfl rfl rfl dX9_isBase_3 ⟨rfl, rfl⟩ (fun x_5 => ?_)
  refine S_ifeq (pc := 6) (tgt := 42) dX9_isBase_6 (by decide) ?_ ?_
  · refine S_iconst (pc := 42) (v := (nI 0)) dX9_isBase_42 kI_0 ?_
    exact S_zret (pc := 43) ⟨rfl, rfl⟩ rfl rfl dX9_isBase_43
  · refine S_aload_n (pc := 9) dX9_isBase_9 rfl ?_
    refine S_iload_n (pc := 10) dX9_isBase_10 rfl ?_
    refine S_iload_n (pc := 11) dX9_isBase_11 rfl ?_
    refine Y_Vi (pc := 12) (st := []) (kc' := 0) (ks' := 0) (ktX9_isInterface r0 v1 v2) mw_X9_isInterface mv_X9_isInterface w1282 (RO.mk rfl rfl rfl rfl) rfl rfl rfl dX9_isBase_12 ⟨rfl, rfl⟩ (fun x_6 => ?_)
    refine S_ifne (pc := 15) (tgt := 42) dX9_isBase_15 (by decide) ?_ ?_
    · refine S_iconst (pc := 42) (v := (nI 0)) dX9_isBase_42 kI_0 ?_
      exact S_zret (pc := 43) ⟨rfl, rfl⟩ rfl rfl dX9_isBase_43
    · refine S_aload_n (pc := 18) dX9_isBase_18 rfl ?_
      refine S_iload_n (pc := 19) dX9_isBase_19 rfl ?_
      refine S_iload_n (pc := 20) dX9_isBase_20 rfl ?_
      refine S_bipush (pc := 21) (v := (nI 6)) dX9_isBase_21 kB_6 ?_
      refine Y_Vi (pc := 23) (st := []) (kc' := 0) (ks' := 0) (ktX9_of r0 v1 v2 (nI 6)) mw_X9_of mv_X9_of w1219 (RO.mk rfl rfl rfl rfl) rfl rfl rfl dX9_isBase_23 ⟨rfl, rfl⟩ (fun x_7 => ?_)
      refine S_ifne (pc := 26) (tgt := 42) dX9_isBase_26 (by decide) ?_ ?_
      · refine S_iconst (pc := 42) (v := (nI 0)) dX9_isBase_42 kI_0 ?_
        exact S_zret (pc := 43) ⟨rfl, rfl⟩ rfl rfl dX9_isBase_43
      · refine S_aload_n (pc := 29) dX9_isBase_29 rfl ?_
        refine S_iload_n (pc := 30) dX9_isBase_30 rfl ?_
        refine S_iload_n (pc := 31) dX9_isBase_31 rfl ?_
        refine Y_Vi (pc := 32) (st := []) (kc' := 0) (ks' := 0) (ktX9_isOpenClass r0 v1 v2) mw_X9_isOpenClass mv_X9_isOpenClass w1223 (RO.mk rfl rfl rfl rfl) rfl rfl rfl dX9_isBase_32 ⟨rfl, rfl⟩ (fun x_8 => ?_)
        refine S_ifeq (pc := 35) (tgt := 42) dX9_isBase_35 (by decide) ?_ ?_
        · refine S_iconst (pc := 42) (v := (nI 0)) dX9_isBase_42 kI_0 ?_
          exact S_zret (pc := 43) ⟨rfl, rfl⟩ rfl rfl dX9_isBase_43
        · refine S_iconst (pc := 38) (v := (nI 1)) dX9_isBase_38 kI_1 ?_
          refine S_goto (pc := 39) (tgt := 43) dX9_isBase_39 (by decide) ?_
          exact S_zret (pc := 43) ⟨rfl, rfl⟩ rfl rfl dX9_isBase_43
theorem ktX9_isBase (r0 : Nat) (v1 : Int32) (v2 : Int32) : Ct mX9_isBase rI [.ref r0, .int v1, .int v2] (fX9_isBase r0 v1 v2) := Ct.of (z := 0) pn_X9 rfl rfl rfl (sX9_isBase r0 v1 v2)
def mX9_compiled : MI := (yX9_compiled, cX9_compiled, 3, (some .int), { frames := 8, cells := 0, slots := 0, locals := 202 }, [])
theorem mw_X9_compiled : MW mX9_compiled 1 := ⟨w1204, w11, ⟨by decide, by decide⟩, by decide +kernel⟩
theorem mv_X9_compiled : MV mX9_compiled 9 := ⟨_, rfl, w1203, wp39⟩
def fX9_compiled  (r0 : Nat) (v1 : Int32) : AH → Option (Int32 × AH) := fun h =>
  cv 9 r0 (fX9_noReference r0) h fun _ h =>
  (gP 9 r0 15 h).bind fun a_21 =>
  (ldI a_21 (nI 1) h).bind fun x_22 =>
  cv 9 r0 (fX9_isClass r0 v1 x_22) h fun x_23 h =>
  if x_23 = 0 then (
    some ((nI 1), h))
  else
  cv 9 r0 (fX9_isOpenClass r0 v1 x_22) h fun x_24 h =>
  if x_24 = 0 then (
    some ((nI 2), h))
  else
  (gP 9 r0 15 h).bind fun a_25 =>
  (ldI a_25 (nI 0) h).bind fun x_26 =>
  if x_26 = (nI 0) then (
    cv 9 r0 (fX9_compiledField r0 v1 x_22) h fun x_27 h =>
    some (x_27, h))
  else
  if x_26 = (nI 1) then (
    cv 9 r0 (fX9_compiledField r0 v1 x_22) h fun x_28 h =>
    some (x_28, h))
  else
  if x_26 = (nI 2) then (
    cv 9 r0 (fX9_compiledCall r0 v1 x_22) h fun x_29 h =>
    some (x_29, h))
  else
  if x_26 = (nI 3) then (
    cv 9 r0 (fX9_of r0 v1 x_22 (nI 7)) h fun x_30 h =>
    if x_30 = (nI 1) then (
      some ((nI 6), h))
    else
    some ((nI 0), h))
  else
  if x_26 = (nI 4) then (
    cv 9 r0 (fX9_isInterface r0 v1 x_22) h fun x_31 h =>
    if x_31 = 0 then (
      cv 9 r0 (fX9_of r0 v1 x_22 (nI 6)) h fun x_32 h =>
      if x_32 = (nI 1) then (
        some ((nI 6), h))
      else
      cv 9 r0 (fX9_isIncomplete r0 v1 x_22 (-2 : Int32)) h fun x_33 h =>
      if x_33 = 0 then (
        some ((nI 0), h))
      else
      some ((nI 7), h))
    else
    some ((nI 6), h))
  else
  cv 9 r0 (fX9_isInterface r0 v1 x_22) h fun x_34 h =>
  if x_34 = 0 then (
    some ((nI 6), h))
  else
  (gP 9 r0 15 h).bind fun a_35 =>
  (ldI a_35 (nI 4) h).bind fun x_36 =>
  cv 9 r0 (fX9_isBase r0 v1 x_36) h fun x_37 h =>
  if x_37 = 0 then (
    some ((nI 8), h))
  else
  (gP 9 r0 15 h).bind fun a_38 =>
  (ldI a_38 (nI 4) h).bind fun x_39 =>
  cv 9 r0 (fX9_isIncomplete r0 v1 x_22 x_39) h fun x_40 h =>
  if x_40 = 0 then (
    some ((nI 0), h))
  else
  some ((nI 7), h)
theorem sX9_compiled  (r0 : Nat) (v1 : Int32) : Sm mX9_compiled rI 0 0 0 [some (.ref r0), some (.int v1), none] [] (fX9_compiled r0 v1) := by
  unfold fX9_compiled
  refine S_aload_n (pc := 0) dX9_compiled_0 rfl ?_
  refine Y_Vv (pc := 1) (st := []) (kc' := 0) (ks' := 0) (ktX9_noReference r0) mw_X9_noReference mv_X9_noReference w1205 (RO.mk rfl rfl rfl rfl) rfl rfl rfl dX9_compiled_1 ⟨rfl, rfl⟩ ?_
  refine S_aload_n (pc := 4) dX9_compiled_4 rfl ?_
  refine S_gP (pc := 5) fl_X9_22 rfl dX9_compiled_5 (fun a_21 => ?_)
  refine S_iconst (pc := 8) (v := (nI 1)) dX9_compiled_8 kI_1 ?_
  refine S_ldI (pc := 9) dX9_compiled_9 (fun x_22 => ?_)
  refine Z_istore_n (pc := 10) (lv' := [some (.ref r0), some (.int v1), some (.int x_22)]) dX9_compiled_10 rfl rfl rfl ?_
  refine S_aload_n (pc := 11) dX9_compiled_11 rfl ?_
  refine S_iload_n (pc := 12) dX9_compiled_12 rfl ?_
  refine S_iload_n (pc := 13) dX9_compiled_13 rfl ?_
  refine Y_Vi (pc := 14) (st := []) (kc' := 0) (ks' := 0) (ktX9_isClass r0 v1 x_22) mw_X9_isClass mv_X9_isClass w1209 (RO.mk rfl rfl rfl rfl) rfl rfl rfl dX9_compiled_14 ⟨rfl, rfl⟩ (fun x_23 => ?_)
  refine S_ifne (pc := 17) (tgt := 22) dX9_compiled_17 (by decide) ?_ ?_
  · refine S_aload_n (pc := 22) dX9_compiled_22 rfl ?_
    refine S_iload_n (pc := 23) dX9_compiled_23 rfl ?_
    refine S_iload_n (pc := 24) dX9_compiled_24 rfl ?_
    refine Y_Vi (pc := 25) (st := []) (kc' := 0) (ks' := 0) (ktX9_isOpenClass r0 v1 x_22) mw_X9_isOpenClass mv_X9_isOpenClass w1223 (RO.mk rfl rfl rfl rfl) rfl rfl rfl dX9_compiled_25 ⟨rfl, rfl⟩ (fun x_24 => ?_)
    refine S_ifne (pc := 28) (tgt := 33) dX9_compiled_28 (by decide) ?_ ?_
    · refine S_aload_n (pc := 33) dX9_compiled_33 rfl ?_
      refine S_gP (pc := 34) fl_X9_22 rfl dX9_compiled_34 (fun a_25 => ?_)
      refine S_iconst (pc := 37) (v := (nI 0)) dX9_compiled_37 kI_0 ?_
      refine S_ldI (pc := 38) dX9_compiled_38 (fun x_26 => ?_)
      refine S_case (x := x_26) (v := (nI 0)) (fun n0 => ?_) (fun n0 => ?_)
      · refine S_tsI (pc := 39) (tgt := 72) n0 dX9_compiled_39 (by decide) rfl (by decide) ?_
        refine S_aload_n (pc := 72) dX9_compiled_72 rfl ?_
        refine S_iload_n (pc := 73) dX9_compiled_73 rfl ?_
        refine S_iload_n (pc := 74) dX9_compiled_74 rfl ?_
        refine Y_Vi (pc := 75) (st := []) (kc' := 0) (ks' := 0) (ktX9_compiledField r0 v1 x_22) mw_X9_compiledField mv_X9_compiledField w1227 (RO.mk rfl rfl rfl rfl) rfl rfl rfl dX9_compiled_75 ⟨rfl, rfl⟩ (fun x_27 => ?_)
        exact S_iret (pc := 78) ⟨rfl, rfl⟩ rfl rfl dX9_compiled_78
      refine S_case (x := x_26) (v := (nI 1)) (fun n1 => ?_) (fun n1 => ?_)
      · refine S_tsI (pc := 39) (tgt := 72) n1 dX9_compiled_39 (by decide) rfl (by decide) ?_
        refine S_aload_n (pc := 72) dX9_compiled_72 rfl ?_
        refine S_iload_n (pc := 73) dX9_compiled_73 rfl ?_
        refine S_iload_n (pc := 74) dX9_compiled_74 rfl ?_
        refine Y_Vi (pc := 75) (st := []) (kc' := 0) (ks' := 0) (ktX9_compiledField r0 v1 x_22) mw_X9_compiledField mv_X9_compiledField w1227 (RO.mk rfl rfl rfl rfl) rfl rfl rfl dX9_compiled_75 ⟨rfl, rfl⟩ (fun x_28 => ?_)
        exact S_iret (pc := 78) ⟨rfl, rfl⟩ rfl rfl dX9_compiled_78
      refine S_case (x := x_26) (v := (nI 2)) (fun n2 => ?_) (fun n2 => ?_)
      · refine S_tsI (pc := 39) (tgt := 79) n2 dX9_compiled_39 (by decide) rfl (by decide) ?_
        refine S_aload_n (pc := 79) dX9_compiled_79 rfl ?_
        refine S_iload_n (pc := 80) dX9_compiled_80 rfl ?_
        refine S_iload_n (pc := 81) dX9_compiled_81 rfl ?_
        refine Y_Vi (pc := 82) (st := []) (kc' := 0) (ks' := 0) (ktX9_compiledCall r0 v1 x_22) mw_X9_compiledCall mv_X9_compiledCall w1270 (RO.mk rfl rfl rfl rfl) rfl rfl rfl dX9_compiled_82 ⟨rfl, rfl⟩ (fun x_29 => ?_)
        exact S_iret (pc := 85) ⟨rfl, rfl⟩ rfl rfl dX9_compiled_85
      refine S_case (x := x_26) (v := (nI 3)) (fun n3 => ?_) (fun n3 => ?_)
      · refine S_tsI (pc := 39) (tgt := 86) n3 dX9_compiled_39 (by decide) rfl (by decide) ?_
        refine S_aload_n (pc := 86) dX9_compiled_86 rfl ?_
        refine S_iload_n (pc := 87) dX9_compiled_87 rfl ?_
        refine S_iload_n (pc := 88) dX9_compiled_88 rfl ?_
        refine S_bipush (pc := 89) (v := (nI 7)) dX9_compiled_89 kB_7 ?_
        refine Y_Vi (pc := 91) (st := []) (kc' := 0) (ks' := 0) (ktX9_of r0 v1 x_22 (nI 7)) mw_X9_of mv_X9_of w1219 (RO.mk rfl rfl rfl rfl) rfl rfl rfl dX9_compiled_91 ⟨rfl, rfl⟩ (fun x_30 => ?_)
        refine S_iconst (pc := 94) (v := (nI 1)) dX9_compiled_94 kI_1 ?_
        refine S_icmpne (pc := 95) (tgt := 103) dX9_compiled_95 (by decide) ?_ ?_
        · refine S_iconst (pc := 103) (v := (nI 0)) dX9_compiled_103 kI_0 ?_
          exact S_iret (pc := 104) ⟨rfl, rfl⟩ rfl rfl dX9_compiled_104
        · refine S_bipush (pc := 98) (v := (nI 6)) dX9_compiled_98 kB_6 ?_
          refine S_goto (pc := 100) (tgt := 104) dX9_compiled_100 (by decide) ?_
          exact S_iret (pc := 104) ⟨rfl, rfl⟩ rfl rfl dX9_compiled_104
      refine S_case (x := x_26) (v := (nI 4)) (fun n4 => ?_) (fun n4 => ?_)
      · refine S_tsI (pc := 39) (tgt := 105) n4 dX9_compiled_39 (by decide) rfl (by decide) ?_
        refine S_aload_n (pc := 105) dX9_compiled_105 rfl ?_
        refine S_iload_n (pc := 106) dX9_compiled_106 rfl ?_
        refine S_iload_n (pc := 107) dX9_compiled_107 rfl ?_
        refine Y_Vi (pc := 108) (st := []) (kc' := 0) (ks' := 0) (ktX9_isInterface r0 v1 x_22) mw_X9_isInterface mv_X9_isInterface w1282 (RO.mk rfl rfl rfl rfl) rfl rfl rfl dX9_compiled_108 ⟨rfl, rfl⟩ (fun x_31 => ?_)
        refine S_ifne (pc := 111) (tgt := 126) dX9_compiled_111 (by decide) ?_ ?_
        · refine S_bipush (pc := 126) (v := (nI 6)) dX9_compiled_126 kB_6 ?_
          refine S_goto (pc := 128) (tgt := 148) dX9_compiled_128 (by decide) ?_
          exact S_iret (pc := 148) ⟨rfl, rfl⟩ rfl rfl dX9_compiled_148
        · refine S_aload_n (pc := 114) dX9_compiled_114 rfl ?_
          refine S_iload_n (pc := 115) dX9_compiled_115 rfl ?_
          refine S_iload_n (pc := 116) dX9_compiled_116 rfl ?_
          refine S_bipush (pc := 117) (v := (nI 6)) dX9_compiled_117 kB_6 ?_
          refine Y_Vi (pc := 119) (st := []) (kc' := 0) (ks' := 0) (ktX9_of r0 v1 x_22 (nI 6)) mw_X9_of mv_X9_of w1219 (RO.mk rfl rfl rfl rfl) rfl rfl rfl dX9_compiled_119 ⟨rfl, rfl⟩ (fun x_32 => ?_)
          refine S_iconst (pc := 122) (v := (nI 1)) dX9_compiled_122 kI_1 ?_
          refine S_icmpne (pc := 123) (tgt := 131) dX9_compiled_123 (by decide) ?_ ?_
          · refine S_aload_n (pc := 131) dX9_compiled_131 rfl ?_
            refine S_iload_n (pc := 132) dX9_compiled_132 rfl ?_
            refine S_iload_n (pc := 133) dX9_compiled_133 rfl ?_
            refine S_bipush (pc := 134) (v := (-2 : Int32)) dX9_compiled_134 kB_m2 ?_
            refine Y_Vi (pc := 136) (st := []) (kc' := 0) (ks' := 0) (ktX9_isIncomplete r0 v1 x_22 (-2 : Int32)) mw_X9_isIncomplete mv_X9_isIncomplete w1298 (RO.mk rfl rfl rfl rfl) rfl rfl rfl dX9_compiled_136 ⟨rfl, rfl⟩ (fun x_33 => ?_)
            refine S_ifeq (pc := 139) (tgt := 147) dX9_compiled_139 (by decide) ?_ ?_
            · refine S_iconst (pc := 147) (v := (nI 0)) dX9_compiled_147 kI_0 ?_
              exact S_iret (pc := 148) ⟨rfl, rfl⟩ rfl rfl dX9_compiled_148
            · refine S_bipush (pc := 142) (v := (nI 7)) dX9_compiled_142 kB_7 ?_
              refine S_goto (pc := 144) (tgt := 148) dX9_compiled_144 (by decide) ?_
              exact S_iret (pc := 148) ⟨rfl, rfl⟩ rfl rfl dX9_compiled_148
          · refine S_bipush (pc := 126) (v := (nI 6)) dX9_compiled_126 kB_6 ?_
            refine S_goto (pc := 128) (tgt := 148) dX9_compiled_128 (by decide) ?_
            exact S_iret (pc := 148) ⟨rfl, rfl⟩ rfl rfl dX9_compiled_148
      refine S_tsD (pc := 39) (tgt := 149) (by have n0 := lv_neT (a := 0) n0 rfl; have n1 := lv_neT (a := 1) n1 rfl; have n2 := lv_neT (a := 2) n2 rfl; have n3 := lv_neT (a := 3) n3 rfl; have n4 := lv_neT (a := 4) n4 rfl; omega) dX9_compiled_39 (by decide) ?_
      refine S_aload_n (pc := 149) dX9_compiled_149 rfl ?_
      refine S_iload_n (pc := 150) dX9_compiled_150 rfl ?_
      refine S_iload_n (pc := 151) dX9_compiled_151 rfl ?_
      refine Y_Vi (pc := 152) (st := []) (kc' := 0) (ks' := 0) (ktX9_isInterface r0 v1 x_22) mw_X9_isInterface mv_X9_isInterface w1282 (RO.mk rfl rfl rfl rfl) rfl rfl rfl dX9_compiled_152 ⟨rfl, rfl⟩ (fun x_34 => ?_)
      refine S_ifne (pc := 155) (tgt := 163) dX9_compiled_155 (by decide) ?_ ?_
      · refine S_aload_n (pc := 163) dX9_compiled_163 rfl ?_
        refine S_iload_n (pc := 164) dX9_compiled_164 rfl ?_
        refine S_aload_n (pc := 165) dX9_compiled_165 rfl ?_
        refine S_gP (pc := 166) fl_X9_22 rfl dX9_compiled_166 (fun a_35 => ?_)
        refine S_iconst (pc := 169) (v := (nI 4)) dX9_compiled_169 kI_4 ?_
        refine S_ldI (pc := 170) dX9_compiled_170 (fun x_36 => ?_)
        refine Y_Vi (pc := 171) (st := []) (kc' := 0) (ks' := 0) (ktX9_isBase r0 v1 x_36) mw_X9_isBase mv_X9_isBase w1326 (RO.mk rfl rfl rfl rfl) rfl rfl rfl dX9_compiled_171 ⟨rfl, rfl⟩ (fun x_37 => ?_)
        refine S_ifne (pc := 174) (tgt := 182) dX9_compiled_174 (by decide) ?_ ?_
        · refine S_aload_n (pc := 182) dX9_compiled_182 rfl ?_
          refine S_iload_n (pc := 183) dX9_compiled_183 rfl ?_
          refine S_iload_n (pc := 184) dX9_compiled_184 rfl ?_
          refine S_aload_n (pc := 185) dX9_compiled_185 rfl ?_
          refine S_gP (pc := 186) fl_X9_22 rfl dX9_compiled_186 (fun a_38 => ?_)
          refine S_iconst (pc := 189) (v := (nI 4)) dX9_compiled_189 kI_4 ?_
          refine S_ldI (pc := 190) dX9_compiled_190 (fun x_39 => ?_)
          refine Y_Vi (pc := 191) (st := []) (kc' := 0) (ks' := 0) (ktX9_isIncomplete r0 v1 x_22 x_39) mw_X9_isIncomplete mv_X9_isIncomplete w1298 (RO.mk rfl rfl rfl rfl) rfl rfl rfl dX9_compiled_191 ⟨rfl, rfl⟩ (fun x_40 => ?_)
          refine S_ifeq (pc := 194) (tgt := 202) dX9_compiled_194 (by decide) ?_ ?_
          · refine S_iconst (pc := 202) (v := (nI 0)) dX9_compiled_202 kI_0 ?_
            exact S_iret (pc := 203) ⟨rfl, rfl⟩ rfl rfl dX9_compiled_203
          · refine S_bipush (pc := 197) (v := (nI 7)) dX9_compiled_197 kB_7 ?_
            refine S_goto (pc := 199) (tgt := 203) dX9_compiled_199 (by decide) ?_
            exact S_iret (pc := 203) ⟨rfl, rfl⟩ rfl rfl dX9_compiled_203
        · refine S_bipush (pc := 177) (v := (nI 8)) dX9_compiled_177 kB_8 ?_
          refine S_goto (pc := 179) (tgt := 203) dX9_compiled_179 (by decide) ?_
          exact S_iret (pc := 203) ⟨rfl, rfl⟩ rfl rfl dX9_compiled_203
      · refine S_bipush (pc := 158) (v := (nI 6)) dX9_compiled_158 kB_6 ?_
        refine S_goto (pc := 160) (tgt := 203) dX9_compiled_160 (by decide) ?_
        exact S_iret (pc := 203) ⟨rfl, rfl⟩ rfl rfl dX9_compiled_203
    · refine S_iconst (pc := 31) (v := (nI 2)) dX9_compiled_31 kI_2 ?_
      exact S_iret (pc := 32) ⟨rfl, rfl⟩ rfl rfl dX9_compiled_32
  · refine S_iconst (pc := 20) (v := (nI 1)) dX9_compiled_20 kI_1 ?_
    exact S_iret (pc := 21) ⟨rfl, rfl⟩ rfl rfl dX9_compiled_21
theorem ktX9_compiled (r0 : Nat) (v1 : Int32) : Ct mX9_compiled rI [.ref r0, .int v1] (fX9_compiled r0 v1) := Ct.of (z := 1) pn_X9 rfl rfl rfl (sX9_compiled r0 v1)
def mX9_clientMany : MI := (yX9_clientMany, cX9_clientMany, 1, (some .int), { frames := 0, cells := 0, slots := 0, locals := 0 }, [])
theorem mw_X9_clientMany : MW mX9_clientMany 0 := ⟨w1337, w11, ⟨by decide, by decide⟩, by decide +kernel⟩
theorem mv_X9_clientMany : MV mX9_clientMany 9 := ⟨_, rfl, w1336, wp70⟩
def fX9_clientMany  (r0 : Nat) : AH → Option (Int32 × AH) := fun h =>
  (gP 9 r0 0 h).bind fun a_3 =>
  (ldI a_3 (nI 962) h).bind fun x_4 =>
  some (x_4, h)
theorem sX9_clientMany  (r0 : Nat) : Sm mX9_clientMany rI 0 0 0 [some (.ref r0)] [] (fX9_clientMany r0) := by
  unfold fX9_clientMany
  refine S_aload_n (pc := 0) dX9_clientMany_0 rfl ?_
  refine S_gP (pc := 1) fl_X9_7 rfl dX9_clientMany_1 (fun a_3 => ?_)
  refine S_sipush (pc := 4) (v := (nI 962)) dX9_clientMany_4 kS_962 ?_
  refine S_ldI (pc := 7) dX9_clientMany_7 (fun x_4 => ?_)
  exact S_iret (pc := 8) ⟨rfl, rfl⟩ rfl rfl dX9_clientMany_8
theorem ktX9_clientMany (r0 : Nat) : Ct mX9_clientMany rI [.ref r0] (fX9_clientMany r0) := Ct.of (z := 0) pn_X9 rfl rfl rfl (sX9_clientMany r0)
def mX9_refused : MI := (yX9_refused, cX9_refused, 2, (some .boolean), { frames := 0, cells := 0, slots := 0, locals := 0 }, [])
theorem mw_X9_refused : MW mX9_refused 1 := ⟨w1418, w11, ⟨by decide, by decide⟩, by decide +kernel⟩
theorem mv_X9_refused : MV mX9_refused 9 := ⟨_, rfl, w1417, wp72⟩
def fX9_refused  (r0 : Nat) (v1 : Int32) : AH → Option (Int32 × AH) := fun h =>
  (pI 9 r0 3 v1 h).bind fun h =>
  if v1 ≤ 0 then (
    rz (nI 0) (nI 0) h)
  else
  rz (nI 1) (nI 1) h
theorem sX9_refused  (r0 : Nat) (v1 : Int32) : Sm mX9_refused rI 0 0 0 [some (.ref r0), some (.int v1)] [] (fX9_refused r0 v1) := by
  unfold fX9_refused
  refine S_aload_n (pc := 0) dX9_refused_0 rfl ?_
  refine S_iload_n (pc := 1) dX9_refused_1 rfl ?_
  refine S_pI (pc := 2) fl_X9_55 rfl rfl dX9_refused_2 ?_
  refine S_iload_n (pc := 5) dX9_refused_5 rfl ?_
  refine S_ifle (pc := 6) (tgt := 13) dX9_refused_6 (by decide) ?_ ?_
  · refine S_iconst (pc := 13) (v := (nI 0)) dX9_refused_13 kI_0 ?_
    exact S_zret (pc := 14) ⟨rfl, rfl⟩ rfl rfl dX9_refused_14
  · refine S_iconst (pc := 9) (v := (nI 1)) dX9_refused_9 kI_1 ?_
    refine S_goto (pc := 10) (tgt := 14) dX9_refused_10 (by decide) ?_
    exact S_zret (pc := 14) ⟨rfl, rfl⟩ rfl rfl dX9_refused_14
theorem ktX9_refused (r0 : Nat) (v1 : Int32) : Ct mX9_refused rI [.ref r0, .int v1] (fX9_refused r0 v1) := Ct.of (z := 0) pn_X9 rfl rfl rfl (sX9_refused r0 v1)
def mX9_saves : MI := (yX9_saves, cX9_saves, 2, none, { frames := 0, cells := 0, slots := 0, locals := 0 }, [])
theorem mw_X9_saves : MW mX9_saves 0 := ⟨w1434, w11, ⟨by decide, by decide⟩, by decide +kernel⟩
theorem mv_X9_saves : MV mX9_saves 9 := ⟨_, rfl, w1433, wp75⟩
def bX9_saves_51  (k51 : Nat → Int32 → AH → Option (Unit × AH)) (r0 : Nat) (v1 : Int32) : AH → Option (Unit × AH) := fun h =>
  if (nI 1155) ≤ v1 then (
    (gI 9 r0 2 h).bind fun x_21 =>
    (pI 9 r0 2 (x_21 + (nI 1)) h).bind fun h =>
    some ((), h))
  else
  (gP 9 r0 1 h).bind fun a_22 =>
  (gI 9 r0 2 h).bind fun x_23 =>
  (gP 9 r0 0 h).bind fun a_24 =>
  (ldI a_24 v1 h).bind fun x_25 =>
  (stI a_22 (((nI 1155) * x_23) + v1) x_25 h).bind fun h =>
  k51 r0 (v1 + (nI 1)) h
def lX9_saves_51  : Nat → Nat → Int32 → AH → Option (Unit × AH)
  | 0 => fun _ _ _ => none
  | n + 1 => bX9_saves_51 (lX9_saves_51 n)
def fX9_saves_49  (r0 : Nat) : AH → Option (Unit × AH) := fun h =>
  lX9_saves_51 fuel r0 (nI 0) h
def bX9_saves_10  (k10 : Nat → Int32 → AH → Option (Unit × AH)) (r0 : Nat) (v1 : Int32) : AH → Option (Unit × AH) := fun h =>
  if (nI 4620) ≤ v1 then (
    (gI 9 r0 2 h).bind fun x_26 =>
    (pI 9 r0 2 (x_26 - (nI 1)) h).bind fun h =>
    fX9_saves_49 r0 h)
  else
  (gP 9 r0 1 h).bind fun a_27 =>
  (gP 9 r0 1 h).bind fun a_28 =>
  (ldI a_28 (v1 + (nI 1155)) h).bind fun x_29 =>
  (stI a_27 v1 x_29 h).bind fun h =>
  k10 r0 (v1 + (nI 1)) h
def lX9_saves_10  : Nat → Nat → Int32 → AH → Option (Unit × AH)
  | 0 => fun _ _ _ => none
  | n + 1 => bX9_saves_10 (lX9_saves_10 n)
def fX9_saves  (r0 : Nat) : AH → Option (Unit × AH) := fun h =>
  (gI 9 r0 2 h).bind fun x_30 =>
  if x_30 = (nI 5) then (
    lX9_saves_10 fuel r0 (nI 0) h)
  else
  fX9_saves_49 r0 h
theorem sbX9_saves_51  {k51 : Nat → Int32 → AH → Option (Unit × AH)} (h51 : ∀ (r0 : Nat) (v1 : Int32), Sm mX9_saves rV 0 0 51 [some (.ref r0), some (.int v1)] [] (k51 r0 v1)) (r0 : Nat) (v1 : Int32) : Sm mX9_saves rV 0 0 51 [some (.ref r0), some (.int v1)] [] (bX9_saves_51 k51 r0 v1) := by
  unfold bX9_saves_51
  refine S_iload_n (pc := 51) dX9_saves_51 rfl ?_
  refine S_sipush (pc := 52) (v := (nI 1155)) dX9_saves_52 kS_1155 ?_
  refine S_icmpge (pc := 55) (tgt := 85) dX9_saves_55 (by decide) ?_ ?_
  · refine S_aload_n (pc := 85) dX9_saves_85 rfl ?_
    refine S_dup (pc := 86) rfl dX9_saves_86 ?_
    refine S_gI (pc := 87) fl_X9_59 rfl dX9_saves_87 (fun x_21 => ?_)
    refine S_iconst (pc := 90) (v := (nI 1)) dX9_saves_90 kI_1 ?_
    refine S_iadd (pc := 91) dX9_saves_91 ?_
    refine S_pI (pc := 92) fl_X9_59 rfl rfl dX9_saves_92 ?_
    exact S_vret (pc := 95) ⟨rfl, rfl⟩ rfl rfl dX9_saves_95
  · refine S_aload_n (pc := 58) dX9_saves_58 rfl ?_
    refine S_gP (pc := 59) fl_X9_13 rfl dX9_saves_59 (fun a_22 => ?_)
    refine S_sipush (pc := 62) (v := (nI 1155)) dX9_saves_62 kS_1155 ?_
    refine S_aload_n (pc := 65) dX9_saves_65 rfl ?_
    refine S_gI (pc := 66) fl_X9_59 rfl dX9_saves_66 (fun x_23 => ?_)
    refine S_imul (pc := 69) dX9_saves_69 ?_
    refine S_iload_n (pc := 70) dX9_saves_70 rfl ?_
    refine S_iadd (pc := 71) dX9_saves_71 ?_
    refine S_aload_n (pc := 72) dX9_saves_72 rfl ?_
    refine S_gP (pc := 73) fl_X9_7 rfl dX9_saves_73 (fun a_24 => ?_)
    refine S_iload_n (pc := 76) dX9_saves_76 rfl ?_
    refine S_ldI (pc := 77) dX9_saves_77 (fun x_25 => ?_)
    refine S_stI (pc := 78) dX9_saves_78 ?_
    refine Z_iinc (pc := 79) (v := (nI 1)) (lv' := [some (.ref r0), some (.int (v1 + (nI 1)))]) dX9_saves_79 rfl kI_1 rfl rfl rfl ?_
    refine S_goto (pc := 82) (tgt := 51) dX9_saves_82 (by decide) ?_
    exact (h51 r0 (v1 + (nI 1)))
theorem sX9_saves_51  : ∀ (n : Nat) (r0 : Nat) (v1 : Int32), Sm mX9_saves rV 0 0 51 [some (.ref r0), some (.int v1)] [] (lX9_saves_51 n r0 v1)
  | 0, _, _ => S_none
  | n + 1, r0, v1 => sbX9_saves_51 (sX9_saves_51 n) r0 v1
theorem sX9_saves_49  (r0 : Nat) : Sm mX9_saves rV 0 0 49 [some (.ref r0), none] [] (fX9_saves_49 r0) := by
  unfold fX9_saves_49
  refine S_iconst (pc := 49) (v := (nI 0)) dX9_saves_49 kI_0 ?_
  refine Z_istore_n (pc := 50) (lv' := [some (.ref r0), some (.int (nI 0))]) dX9_saves_50 rfl rfl rfl ?_
  exact (sX9_saves_51 fuel r0 (nI 0))
theorem sbX9_saves_10  {k10 : Nat → Int32 → AH → Option (Unit × AH)} (h10 : ∀ (r0 : Nat) (v1 : Int32), Sm mX9_saves rV 0 0 10 [some (.ref r0), some (.int v1)] [] (k10 r0 v1)) (r0 : Nat) (v1 : Int32) : Sm mX9_saves rV 0 0 10 [some (.ref r0), some (.int v1)] [] (bX9_saves_10 k10 r0 v1) := by
  unfold bX9_saves_10
  refine S_iload_n (pc := 10) dX9_saves_10 rfl ?_
  refine S_sipush (pc := 11) (v := (nI 4620)) dX9_saves_11 kS_4620 ?_
  refine S_icmpge (pc := 14) (tgt := 39) dX9_saves_14 (by decide) ?_ ?_
  · refine S_aload_n (pc := 39) dX9_saves_39 rfl ?_
    refine S_dup (pc := 40) rfl dX9_saves_40 ?_
    refine S_gI (pc := 41) fl_X9_59 rfl dX9_saves_41 (fun x_26 => ?_)
    refine S_iconst (pc := 44) (v := (nI 1)) dX9_saves_44 kI_1 ?_
    refine S_isub (pc := 45) dX9_saves_45 ?_
    refine S_pI (pc := 46) fl_X9_59 rfl rfl dX9_saves_46 ?_
    exact (S_lv (lv0 := [some (.ref r0), none]) (And.intro rfl trivial) (sX9_saves_49 r0))
  · refine S_aload_n (pc := 17) dX9_saves_17 rfl ?_
    refine S_gP (pc := 18) fl_X9_13 rfl dX9_saves_18 (fun a_27 => ?_)
    refine S_iload_n (pc := 21) dX9_saves_21 rfl ?_
    refine S_aload_n (pc := 22) dX9_saves_22 rfl ?_
    refine S_gP (pc := 23) fl_X9_13 rfl dX9_saves_23 (fun a_28 => ?_)
    refine S_iload_n (pc := 26) dX9_saves_26 rfl ?_
    refine S_sipush (pc := 27) (v := (nI 1155)) dX9_saves_27 kS_1155 ?_
    refine S_iadd (pc := 30) dX9_saves_30 ?_
    refine S_ldI (pc := 31) dX9_saves_31 (fun x_29 => ?_)
    refine S_stI (pc := 32) dX9_saves_32 ?_
    refine Z_iinc (pc := 33) (v := (nI 1)) (lv' := [some (.ref r0), some (.int (v1 + (nI 1)))]) dX9_saves_33 rfl kI_1 rfl rfl rfl ?_
    refine S_goto (pc := 36) (tgt := 10) dX9_saves_36 (by decide) ?_
    exact (h10 r0 (v1 + (nI 1)))
theorem sX9_saves_10  : ∀ (n : Nat) (r0 : Nat) (v1 : Int32), Sm mX9_saves rV 0 0 10 [some (.ref r0), some (.int v1)] [] (lX9_saves_10 n r0 v1)
  | 0, _, _ => S_none
  | n + 1, r0, v1 => sbX9_saves_10 (sX9_saves_10 n) r0 v1
theorem sX9_saves  (r0 : Nat) : Sm mX9_saves rV 0 0 0 [some (.ref r0), none] [] (fX9_saves r0) := by
  unfold fX9_saves
  refine S_aload_n (pc := 0) dX9_saves_0 rfl ?_
  refine S_gI (pc := 1) fl_X9_59 rfl dX9_saves_1 (fun x_30 => ?_)
  refine S_iconst (pc := 4) (v := (nI 5)) dX9_saves_4 kI_5 ?_
  refine S_icmpne (pc := 5) (tgt := 49) dX9_saves_5 (by decide) ?_ ?_
  · exact (sX9_saves_49 r0)
  · refine S_iconst (pc := 8) (v := (nI 0)) dX9_saves_8 kI_0 ?_
    refine Z_istore_n (pc := 9) (lv' := [some (.ref r0), some (.int (nI 0))]) dX9_saves_9 rfl rfl rfl ?_
    exact (sX9_saves_10 fuel r0 (nI 0))
theorem ktX9_saves (r0 : Nat) : Ct mX9_saves rV [.ref r0] (fX9_saves r0) := Ct.of (z := 1) pn_X9 rfl rfl rfl (sX9_saves r0)
def mX9_keepsReference : MI := (yX9_keepsReference, cX9_keepsReference, 2, none, { frames := 0, cells := 0, slots := 0, locals := 0 }, [])
theorem mw_X9_keepsReference : MW mX9_keepsReference 0 := ⟨w1333, w11, ⟨by decide, by decide⟩, by decide +kernel⟩
theorem mv_X9_keepsReference : MV mX9_keepsReference 9 := ⟨_, rfl, w1332, wp69⟩
def bX9_keepsReference_2  (k2 : Nat → Int32 → AH → Option (Unit × AH)) (r0 : Nat) (v1 : Int32) : AH → Option (Unit × AH) := fun h =>
  if (nI 8) ≤ v1 then (
    some ((), h))
  else
  (gP 9 r0 15 h).bind fun a_7 =>
  (gP 9 r0 16 h).bind fun a_8 =>
  (ldI a_8 v1 h).bind fun x_9 =>
  (stI a_7 ((nI 8) + v1) x_9 h).bind fun h =>
  k2 r0 (v1 + (nI 1)) h
def lX9_keepsReference_2  : Nat → Nat → Int32 → AH → Option (Unit × AH)
  | 0 => fun _ _ _ => none
  | n + 1 => bX9_keepsReference_2 (lX9_keepsReference_2 n)
def fX9_keepsReference  (r0 : Nat) : AH → Option (Unit × AH) := fun h =>
  lX9_keepsReference_2 fuel r0 (nI 0) h
theorem sbX9_keepsReference_2  {k2 : Nat → Int32 → AH → Option (Unit × AH)} (h2 : ∀ (r0 : Nat) (v1 : Int32), Sm mX9_keepsReference rV 0 0 2 [some (.ref r0), some (.int v1)] [] (k2 r0 v1)) (r0 : Nat) (v1 : Int32) : Sm mX9_keepsReference rV 0 0 2 [some (.ref r0), some (.int v1)] [] (bX9_keepsReference_2 k2 r0 v1) := by
  unfold bX9_keepsReference_2
  refine S_iload_n (pc := 2) dX9_keepsReference_2 rfl ?_
  refine S_bipush (pc := 3) (v := (nI 8)) dX9_keepsReference_3 kB_8 ?_
  refine S_icmpge (pc := 5) (tgt := 29) dX9_keepsReference_5 (by decide) ?_ ?_
  · exact S_vret (pc := 29) ⟨rfl, rfl⟩ rfl rfl dX9_keepsReference_29
  · refine S_aload_n (pc := 8) dX9_keepsReference_8 rfl ?_
    refine S_gP (pc := 9) fl_X9_22 rfl dX9_keepsReference_9 (fun a_7 => ?_)
    refine S_bipush (pc := 12) (v := (nI 8)) dX9_keepsReference_12 kB_8 ?_
    refine S_iload_n (pc := 14) dX9_keepsReference_14 rfl ?_
    refine S_iadd (pc := 15) dX9_keepsReference_15 ?_
    refine S_aload_n (pc := 16) dX9_keepsReference_16 rfl ?_
    refine S_gP (pc := 17) fl_X9_25 rfl dX9_keepsReference_17 (fun a_8 => ?_)
    refine S_iload_n (pc := 20) dX9_keepsReference_20 rfl ?_
    refine S_ldI (pc := 21) dX9_keepsReference_21 (fun x_9 => ?_)
    refine S_stI (pc := 22) dX9_keepsReference_22 ?_
    refine Z_iinc (pc := 23) (v := (nI 1)) (lv' := [some (.ref r0), some (.int (v1 + (nI 1)))]) dX9_keepsReference_23 rfl kI_1 rfl rfl rfl ?_
    refine S_goto (pc := 26) (tgt := 2) dX9_keepsReference_26 (by decide) ?_
    exact (h2 r0 (v1 + (nI 1)))
theorem sX9_keepsReference_2  : ∀ (n : Nat) (r0 : Nat) (v1 : Int32), Sm mX9_keepsReference rV 0 0 2 [some (.ref r0), some (.int v1)] [] (lX9_keepsReference_2 n r0 v1)
  | 0, _, _ => S_none
  | n + 1, r0, v1 => sbX9_keepsReference_2 (sX9_keepsReference_2 n) r0 v1
theorem sX9_keepsReference  (r0 : Nat) : Sm mX9_keepsReference rV 0 0 0 [some (.ref r0), none] [] (fX9_keepsReference r0) := by
  unfold fX9_keepsReference
  refine S_iconst (pc := 0) (v := (nI 0)) dX9_keepsReference_0 kI_0 ?_
  refine Z_istore_n (pc := 1) (lv' := [some (.ref r0), some (.int (nI 0))]) dX9_keepsReference_1 rfl rfl rfl ?_
  exact (sX9_keepsReference_2 fuel r0 (nI 0))
theorem ktX9_keepsReference (r0 : Nat) : Ct mX9_keepsReference rV [.ref r0] (fX9_keepsReference r0) := Ct.of (z := 1) pn_X9 rfl rfl rfl (sX9_keepsReference r0)
def mX9_client : MI := (yX9_client, cX9_client, 1, (some .int), { frames := 0, cells := 0, slots := 0, locals := 0 }, [])
theorem mw_X9_client : MW mX9_client 1 := ⟨w1344, w11, ⟨by decide, by decide⟩, by decide +kernel⟩
def fX9_client  (v0 : Int32) : AH → Option (Int32 × AH) := fun h =>
  some (((nI 963) + ((nI 16) * v0)), h)
theorem sX9_client  (v0 : Int32) : Sm mX9_client rI 0 0 0 [some (.int v0)] [] (fX9_client v0) := by
  unfold fX9_client
  refine S_sipush (pc := 0) (v := (nI 963)) dX9_client_0 kS_963 ?_
  refine S_bipush (pc := 3) (v := (nI 16)) dX9_client_3 kB_16 ?_
  refine S_iload_n (pc := 5) dX9_client_5 rfl ?_
  refine S_imul (pc := 6) dX9_client_6 ?_
  refine S_iadd (pc := 7) dX9_client_7 ?_
  exact S_iret (pc := 8) ⟨rfl, rfl⟩ rfl rfl dX9_client_8
theorem ktX9_client (v0 : Int32) : Ct mX9_client rI [.int v0] (fX9_client v0) := Ct.of (z := 0) pn_X9 rfl rfl rfl (sX9_client v0)
def mX9_lies : MI := (yX9_lies, cX9_lies, 3, none, { frames := 1, cells := 0, slots := 0, locals := 20 }, [])
theorem mw_X9_lies : MW mX9_lies 1 := ⟨w1341, w11, ⟨by decide, by decide⟩, by decide +kernel⟩
theorem mv_X9_lies : MV mX9_lies 9 := ⟨_, rfl, w1340, wp71⟩
def bX9_lies_2  (k2 : Nat → Int32 → Int32 → AH → Option (Unit × AH)) (r0 : Nat) (v1 : Int32) (v2 : Int32) : AH → Option (Unit × AH) := fun h =>
  if (nI 16) ≤ v2 then (
    some ((), h))
  else
  (gP 9 r0 0 h).bind fun a_9 =>
  bd (fX9_client v1 h) fun x_10 h =>
  (gP 9 r0 15 h).bind fun a_11 =>
  (ldI a_11 v2 h).bind fun x_12 =>
  (stI a_9 (x_10 + v2) x_12 h).bind fun h =>
  k2 r0 v1 (v2 + (nI 1)) h
def lX9_lies_2  : Nat → Nat → Int32 → Int32 → AH → Option (Unit × AH)
  | 0 => fun _ _ _ _ => none
  | n + 1 => bX9_lies_2 (lX9_lies_2 n)
def fX9_lies  (r0 : Nat) (v1 : Int32) : AH → Option (Unit × AH) := fun h =>
  lX9_lies_2 fuel r0 v1 (nI 0) h
theorem sbX9_lies_2  {k2 : Nat → Int32 → Int32 → AH → Option (Unit × AH)} (h2 : ∀ (r0 : Nat) (v1 : Int32) (v2 : Int32), Sm mX9_lies rV 0 0 2 [some (.ref r0), some (.int v1), some (.int v2)] [] (k2 r0 v1 v2)) (r0 : Nat) (v1 : Int32) (v2 : Int32) : Sm mX9_lies rV 0 0 2 [some (.ref r0), some (.int v1), some (.int v2)] [] (bX9_lies_2 k2 r0 v1 v2) := by
  unfold bX9_lies_2
  refine S_iload_n (pc := 2) dX9_lies_2 rfl ?_
  refine S_bipush (pc := 3) (v := (nI 16)) dX9_lies_3 kB_16 ?_
  refine S_icmpge (pc := 5) (tgt := 31) dX9_lies_5 (by decide) ?_ ?_
  · exact S_vret (pc := 31) ⟨rfl, rfl⟩ rfl rfl dX9_lies_31
  · refine S_aload_n (pc := 8) dX9_lies_8 rfl ?_
    refine S_gP (pc := 9) fl_X9_7 rfl dX9_lies_9 (fun a_9 => ?_)
    refine S_iload_n (pc := 12) dX9_lies_12 rfl ?_
    refine Y_Ti (pc := 13) (st := [.ref a_9]) (kc' := 0) (ks' := 0) (ktX9_client v1) mw_X9_client w1343 w1342 (RO.mk rfl rfl rfl rfl) rfl rfl rfl dX9_lies_13 ⟨rfl, rfl⟩ (fun x_10 => ?_)
    refine S_iload_n (pc := 16) dX9_lies_16 rfl ?_
    refine S_iadd (pc := 17) dX9_lies_17 ?_
    refine S_aload_n (pc := 18) dX9_lies_18 rfl ?_
    refine S_gP (pc := 19) fl_X9_22 rfl dX9_lies_19 (fun a_11 => ?_)
    refine S_iload_n (pc := 22) dX9_lies_22 rfl ?_
    refine S_ldI (pc := 23) dX9_lies_23 (fun x_12 => ?_)
    refine S_stI (pc := 24) dX9_lies_24 ?_
    refine Z_iinc (pc := 25) (v := (nI 1)) (lv' := [some (.ref r0), some (.int v1), some (.int (v2 + (nI 1)))]) dX9_lies_25 rfl kI_1 rfl rfl rfl ?_
    refine S_goto (pc := 28) (tgt := 2) dX9_lies_28 (by decide) ?_
    exact (h2 r0 v1 (v2 + (nI 1)))
theorem sX9_lies_2  : ∀ (n : Nat) (r0 : Nat) (v1 : Int32) (v2 : Int32), Sm mX9_lies rV 0 0 2 [some (.ref r0), some (.int v1), some (.int v2)] [] (lX9_lies_2 n r0 v1 v2)
  | 0, _, _, _ => S_none
  | n + 1, r0, v1, v2 => sbX9_lies_2 (sX9_lies_2 n) r0 v1 v2
theorem sX9_lies  (r0 : Nat) (v1 : Int32) : Sm mX9_lies rV 0 0 0 [some (.ref r0), some (.int v1), none] [] (fX9_lies r0 v1) := by
  unfold fX9_lies
  refine S_iconst (pc := 0) (v := (nI 0)) dX9_lies_0 kI_0 ?_
  refine Z_istore_n (pc := 1) (lv' := [some (.ref r0), some (.int v1), some (.int (nI 0))]) dX9_lies_1 rfl rfl rfl ?_
  exact (sX9_lies_2 fuel r0 v1 (nI 0))
theorem ktX9_lies (r0 : Nat) (v1 : Int32) : Ct mX9_lies rV [.ref r0, .int v1] (fX9_lies r0 v1) := Ct.of (z := 1) pn_X9 rfl rfl rfl (sX9_lies r0 v1)
def mX9_comes : MI := (yX9_comes, cX9_comes, 5, none, { frames := 9, cells := 0, slots := 0, locals := 224 }, [])
theorem mw_X9_comes : MW mX9_comes 4 := ⟨w1196, w11, ⟨by decide, by decide⟩, by decide +kernel⟩
theorem mv_X9_comes : MV mX9_comes 9 := ⟨_, rfl, w1195, wp37⟩
def fX9_comes  (r0 : Nat) (v1 : Int32) (v2 : Int32) (v3 : Int32) (v4 : Int32) : AH → Option (Unit × AH) := fun h =>
  (gP 9 r0 4 h).bind fun a_11 =>
  (ldI a_11 (nI 1) h).bind fun x_12 =>
  (gP 9 r0 4 h).bind fun a_13 =>
  (ldI a_13 (nI 2) h).bind fun x_14 =>
  (gP 9 r0 4 h).bind fun a_15 =>
  (ldI a_15 (nI 3) h).bind fun x_16 =>
  cv 9 r0 (fX9_makes r0 v1 v2 v3 v4 x_12 x_14 x_16) h fun _ h =>
  cv 9 r0 (fX9_compiled r0 (nI 0)) h fun x_17 h =>
  cv 9 r0 (fX9_keepsReference r0) h fun _ h =>
  cv 9 r0 (fX9_clientMany r0) h fun x_18 h =>
  cv 9 r0 (fX9_lies r0 x_18) h fun _ h =>
  (gP 9 r0 0 h).bind fun a_19 =>
  (ldI a_19 (nI 962) h).bind fun x_20 =>
  (stI a_19 (nI 962) (x_20 + (nI 1)) h).bind fun h =>
  some ((), h)
theorem sX9_comes  (r0 : Nat) (v1 : Int32) (v2 : Int32) (v3 : Int32) (v4 : Int32) : Sm mX9_comes rV 0 0 0 [some (.ref r0), some (.int v1), some (.int v2), some (.int v3), some (.int v4)] [] (fX9_comes r0 v1 v2 v3 v4) := by
  unfold fX9_comes
  refine S_aload_n (pc := 0) dX9_comes_0 rfl ?_
  refine S_iload_n (pc := 1) dX9_comes_1 rfl ?_
  refine S_iload_n (pc := 2) dX9_comes_2 rfl ?_
  refine S_iload_n (pc := 3) dX9_comes_3 rfl ?_
  refine S_iload (pc := 4) dX9_comes_4 rfl ?_
  refine S_aload_n (pc := 6) dX9_comes_6 rfl ?_
  refine S_gP (pc := 7) fl_X9_16 rfl dX9_comes_7 (fun a_11 => ?_)
  refine S_iconst (pc := 10) (v := (nI 1)) dX9_comes_10 kI_1 ?_
  refine S_ldI (pc := 11) dX9_comes_11 (fun x_12 => ?_)
  refine S_aload_n (pc := 12) dX9_comes_12 rfl ?_
  refine S_gP (pc := 13) fl_X9_16 rfl dX9_comes_13 (fun a_13 => ?_)
  refine S_iconst (pc := 16) (v := (nI 2)) dX9_comes_16 kI_2 ?_
  refine S_ldI (pc := 17) dX9_comes_17 (fun x_14 => ?_)
  refine S_aload_n (pc := 18) dX9_comes_18 rfl ?_
  refine S_gP (pc := 19) fl_X9_16 rfl dX9_comes_19 (fun a_15 => ?_)
  refine S_iconst (pc := 22) (v := (nI 3)) dX9_comes_22 kI_3 ?_
  refine S_ldI (pc := 23) dX9_comes_23 (fun x_16 => ?_)
  refine Y_Vv (pc := 24) (st := []) (kc' := 0) (ks' := 0) (ktX9_makes r0 v1 v2 v3 v4 x_12 x_14 x_16) mw_X9_makes mv_X9_makes w1197 (RO.mk rfl rfl rfl rfl) rfl rfl rfl dX9_comes_24 ⟨rfl, rfl⟩ ?_
  refine S_aload_n (pc := 27) dX9_comes_27 rfl ?_
  refine S_iconst (pc := 28) (v := (nI 0)) dX9_comes_28 kI_0 ?_
  refine Y_Vi (pc := 29) (st := []) (kc' := 0) (ks' := 0) (ktX9_compiled r0 (nI 0)) mw_X9_compiled mv_X9_compiled w1201 (RO.mk rfl rfl rfl rfl) rfl rfl rfl dX9_comes_29 ⟨rfl, rfl⟩ (fun x_17 => ?_)
  refine S_pop (pc := 32) rfl dX9_comes_32 ?_
  refine S_aload_n (pc := 33) dX9_comes_33 rfl ?_
  refine Y_Vv (pc := 34) (st := []) (kc' := 0) (ks' := 0) (ktX9_keepsReference r0) mw_X9_keepsReference mv_X9_keepsReference w1330 (RO.mk rfl rfl rfl rfl) rfl rfl rfl dX9_comes_34 ⟨rfl, rfl⟩ ?_
  refine S_aload_n (pc := 37) dX9_comes_37 rfl ?_
  refine S_aload_n (pc := 38) dX9_comes_38 rfl ?_
  refine Y_Vi (pc := 39) (st := [.ref r0]) (kc' := 0) (ks' := 0) (ktX9_clientMany r0) mw_X9_clientMany mv_X9_clientMany w1334 (RO.mk rfl rfl rfl rfl) rfl rfl rfl dX9_comes_39 ⟨rfl, rfl⟩ (fun x_18 => ?_)
  refine Y_Vv (pc := 42) (st := []) (kc' := 0) (ks' := 0) (ktX9_lies r0 x_18) mw_X9_lies mv_X9_lies w1338 (RO.mk rfl rfl rfl rfl) rfl rfl rfl dX9_comes_42 ⟨rfl, rfl⟩ ?_
  refine S_aload_n (pc := 45) dX9_comes_45 rfl ?_
  refine S_gP (pc := 46) fl_X9_7 rfl dX9_comes_46 (fun a_19 => ?_)
  refine S_sipush (pc := 49) (v := (nI 962)) dX9_comes_49 kS_962 ?_
  refine S_dup2 (pc := 52) rfl rfl dX9_comes_52 ?_
  refine S_ldI (pc := 53) dX9_comes_53 (fun x_20 => ?_)
  refine S_iconst (pc := 54) (v := (nI 1)) dX9_comes_54 kI_1 ?_
  refine S_iadd (pc := 55) dX9_comes_55 ?_
  refine S_stI (pc := 56) dX9_comes_56 ?_
  exact S_vret (pc := 57) ⟨rfl, rfl⟩ rfl rfl dX9_comes_57
theorem ktX9_comes (r0 : Nat) (v1 : Int32) (v2 : Int32) (v3 : Int32) (v4 : Int32) : Ct mX9_comes rV [.ref r0, .int v1, .int v2, .int v3, .int v4] (fX9_comes r0 v1 v2 v3 v4) := Ct.of (z := 0) pn_X9 rfl rfl rfl (sX9_comes r0 v1 v2 v3 v4)
def mX9_addClient : MI := (yX9_addClient, cX9_addClient, 6, (some .int), { frames := 10, cells := 0, slots := 0, locals := 248 }, [])
theorem mw_X9_addClient : MW mX9_addClient 4 := ⟨w1576, w11, ⟨by decide, by decide⟩, by decide +kernel⟩
theorem mv_X9_addClient : MV mX9_addClient 9 := ⟨_, rfl, w1574, w1575⟩
def fX9_addClient_122  (r0 : Nat) (v1 : Int32) (v2 : Int32) (v3 : Int32) (v4 : Int32) (s0 : Nat) (s1 : Int32) : AH → Option (Int32 × AH) := fun h =>
  cv 9 s0 (fX9_refused s0 s1) h fun x_29 h =>
  if x_29 = 0 then (
    cv 9 r0 (fX9_saves r0) h fun _ h =>
    cv 9 r0 (fX9_comes r0 v1 v2 v3 v4) h fun _ h =>
    cv 9 r0 (fX9_clientMany r0) h fun x_30 h =>
    some ((x_30 - (nI 1)), h))
  else
  some ((nI 0), h)
def fX9_addClient_98  (r0 : Nat) (v1 : Int32) (v2 : Int32) (v3 : Int32) (v4 : Int32) (v5 : Int32) : AH → Option (Int32 × AH) := fun h =>
  if v5 = 0 then (
    fX9_addClient_122 r0 v1 v2 v3 v4 r0 (nI 1) h)
  else
  cv 9 r0 (fX9_clientMany r0) h fun x_31 h =>
  if x_31 = (nI 12) then (
    fX9_addClient_122 r0 v1 v2 v3 v4 r0 (nI 2) h)
  else
  fX9_addClient_122 r0 v1 v2 v3 v4 r0 (nI 0) h
def fX9_addClient_96  (r0 : Nat) (v1 : Int32) (v2 : Int32) (v3 : Int32) (v4 : Int32) (s0 : Int32) : AH → Option (Int32 × AH) := fun h =>
  fX9_addClient_98 r0 v1 v2 v3 v4 s0 h
def fX9_addClient_49  (r0 : Nat) (v1 : Int32) (v2 : Int32) (v3 : Int32) (v4 : Int32) (s0 : Int32) : AH → Option (Int32 × AH) := fun h =>
  if s0 = 0 then (
    fX9_addClient_98 r0 v1 v2 v3 v4 s0 h)
  else
  (gP 9 r0 4 h).bind fun a_32 =>
  (ldI a_32 (nI 1) h).bind fun x_33 =>
  (gP 9 r0 4 h).bind fun a_34 =>
  (ldI a_34 (nI 2) h).bind fun x_35 =>
  (gP 9 r0 4 h).bind fun a_36 =>
  (ldI a_36 (nI 3) h).bind fun x_37 =>
  cv 9 r0 (fX9_makes r0 v1 v2 v3 v4 x_33 x_35 x_37) h fun _ h =>
  cv 9 r0 (fX9_compiled r0 (nI 0)) h fun x_38 h =>
  if x_38 = 0 then (
    fX9_addClient_96 r0 v1 v2 v3 v4 (nI 1) h)
  else
  fX9_addClient_96 r0 v1 v2 v3 v4 (nI 0) h
def fX9_addClient_48  (r0 : Nat) (v1 : Int32) (v2 : Int32) (v3 : Int32) (v4 : Int32) : AH → Option (Int32 × AH) := fun h =>
  fX9_addClient_49 r0 v1 v2 v3 v4 (nI 0) h
def fX9_addClient_34  (r0 : Nat) (v1 : Int32) (v2 : Int32) (v3 : Int32) (v4 : Int32) : AH → Option (Int32 × AH) := fun h =>
  bd (fX9_within v4 (nI 0) (nI 3) h) fun x_39 h =>
  if x_39 = 0 then (
    fX9_addClient_48 r0 v1 v2 v3 v4 h)
  else
  fX9_addClient_49 r0 v1 v2 v3 v4 (nI 1) h
def fX9_addClient  (r0 : Nat) (v1 : Int32) (v2 : Int32) (v3 : Int32) (v4 : Int32) : AH → Option (Int32 × AH) := fun h =>
  bd (fX9_within v1 (nI 0) (nI 5) h) fun x_40 h =>
  if x_40 = 0 then (
    fX9_addClient_48 r0 v1 v2 v3 v4 h)
  else
  bd (fX9_within v2 (nI 0) (nI 9) h) fun x_41 h =>
  if x_41 = 0 then (
    fX9_addClient_48 r0 v1 v2 v3 v4 h)
  else
  if (nI 2) < v1 then (
    fX9_addClient_34 r0 v1 v2 v3 v4 h)
  else
  bd (fX9_within v3 (nI 0) (nI 7) h) fun x_42 h =>
  if x_42 = 0 then (
    fX9_addClient_48 r0 v1 v2 v3 v4 h)
  else
  fX9_addClient_34 r0 v1 v2 v3 v4 h
theorem sX9_addClient_122  (r0 : Nat) (v1 : Int32) (v2 : Int32) (v3 : Int32) (v4 : Int32) (s0 : Nat) (s1 : Int32) : Sm mX9_addClient rI 0 0 122 [some (.ref r0), some (.int v1), some (.int v2), some (.int v3), some (.int v4), none] [.int s1, .ref s0] (fX9_addClient_122 r0 v1 v2 v3 v4 s0 s1) := by
  unfold fX9_addClient_122
  refine Y_Vi (pc := 122) (st := []) (kc' := 0) (ks' := 0) (ktX9_refused s0 s1) mw_X9_refused mv_X9_refused w1415 (RO.mk rfl rfl rfl rfl) rfl rfl rfl dX9_addClient_122 ⟨rfl, rfl⟩ (fun x_29 => ?_)
  refine S_ifeq (pc := 125) (tgt := 130) dX9_addClient_125 (by decide) ?_ ?_
  · refine S_aload_n (pc := 130) dX9_addClient_130 rfl ?_
    refine Y_Vv (pc := 131) (st := []) (kc' := 0) (ks' := 0) (ktX9_saves r0) mw_X9_saves mv_X9_saves w1431 (RO.mk rfl rfl rfl rfl) rfl rfl rfl dX9_addClient_131 ⟨rfl, rfl⟩ ?_
    refine S_aload_n (pc := 134) dX9_addClient_134 rfl ?_
    refine S_iload_n (pc := 135) dX9_addClient_135 rfl ?_
    refine S_iload_n (pc := 136) dX9_addClient_136 rfl ?_
    refine S_iload_n (pc := 137) dX9_addClient_137 rfl ?_
    refine S_iload (pc := 138) dX9_addClient_138 rfl ?_
    refine Y_Vv (pc := 140) (st := []) (kc' := 0) (ks' := 0) (ktX9_comes r0 v1 v2 v3 v4) mw_X9_comes mv_X9_comes w1193 (RO.mk rfl rfl rfl rfl) rfl rfl rfl dX9_addClient_140 ⟨rfl, rfl⟩ ?_
    refine S_aload_n (pc := 143) dX9_addClient_143 rfl ?_
    refine Y_Vi (pc := 144) (st := []) (kc' := 0) (ks' := 0) (ktX9_clientMany r0) mw_X9_clientMany mv_X9_clientMany w1334 (RO.mk rfl rfl rfl rfl) rfl rfl rfl dX9_addClient_144 ⟨rfl, rfl⟩ (fun x_30 => ?_)
    refine S_iconst (pc := 147) (v := (nI 1)) dX9_addClient_147 kI_1 ?_
    refine S_isub (pc := 148) dX9_addClient_148 ?_
    exact S_iret (pc := 149) ⟨rfl, rfl⟩ rfl rfl dX9_addClient_149
  · refine S_iconst (pc := 128) (v := (nI 0)) dX9_addClient_128 kI_0 ?_
    exact S_iret (pc := 129) ⟨rfl, rfl⟩ rfl rfl dX9_addClient_129
theorem sX9_addClient_98  (r0 : Nat) (v1 : Int32) (v2 : Int32) (v3 : Int32) (v4 : Int32) (v5 : Int32) : Sm mX9_addClient rI 0 0 98 [some (.ref r0), some (.int v1), some (.int v2), some (.int v3), some (.int v4), some (.int v5)] [] (fX9_addClient_98 r0 v1 v2 v3 v4 v5) := by
  unfold fX9_addClient_98
  refine S_aload_n (pc := 98) dX9_addClient_98 rfl ?_
  refine S_iload (pc := 99) dX9_addClient_99 rfl ?_
  refine S_ifne (pc := 101) (tgt := 108) dX9_addClient_101 (by decide) ?_ ?_
  · refine S_aload_n (pc := 108) dX9_addClient_108 rfl ?_
    refine Y_Vi (pc := 109) (st := [.ref r0]) (kc' := 0) (ks' := 0) (ktX9_clientMany r0) mw_X9_clientMany mv_X9_clientMany w1334 (RO.mk rfl rfl rfl rfl) rfl rfl rfl dX9_addClient_109 ⟨rfl, rfl⟩ (fun x_31 => ?_)
    refine S_bipush (pc := 112) (v := (nI 12)) dX9_addClient_112 kB_12 ?_
    refine S_icmpne (pc := 114) (tgt := 121) dX9_addClient_114 (by decide) ?_ ?_
    · refine S_iconst (pc := 121) (v := (nI 0)) dX9_addClient_121 kI_0 ?_
      exact (S_lv (lv0 := [some (.ref r0), some (.int v1), some (.int v2), some (.int v3), some (.int v4), none]) (And.intro rfl (And.intro rfl (And.intro rfl (And.intro rfl (And.intro rfl trivial))))) (sX9_addClient_122 r0 v1 v2 v3 v4 r0 (nI 0)))
    · refine S_iconst (pc := 117) (v := (nI 2)) dX9_addClient_117 kI_2 ?_
      refine S_goto (pc := 118) (tgt := 122) dX9_addClient_118 (by decide) ?_
      exact (S_lv (lv0 := [some (.ref r0), some (.int v1), some (.int v2), some (.int v3), some (.int v4), none]) (And.intro rfl (And.intro rfl (And.intro rfl (And.intro rfl (And.intro rfl trivial))))) (sX9_addClient_122 r0 v1 v2 v3 v4 r0 (nI 2)))
  · refine S_iconst (pc := 104) (v := (nI 1)) dX9_addClient_104 kI_1 ?_
    refine S_goto (pc := 105) (tgt := 122) dX9_addClient_105 (by decide) ?_
    exact (S_lv (lv0 := [some (.ref r0), some (.int v1), some (.int v2), some (.int v3), some (.int v4), none]) (And.intro rfl (And.intro rfl (And.intro rfl (And.intro rfl (And.intro rfl trivial))))) (sX9_addClient_122 r0 v1 v2 v3 v4 r0 (nI 1)))
theorem sX9_addClient_96  (r0 : Nat) (v1 : Int32) (v2 : Int32) (v3 : Int32) (v4 : Int32) (s0 : Int32) : Sm mX9_addClient rI 0 0 96 [some (.ref r0), some (.int v1), some (.int v2), some (.int v3), some (.int v4), none] [.int s0] (fX9_addClient_96 r0 v1 v2 v3 v4 s0) := by
  unfold fX9_addClient_96
  refine Z_istore (pc := 96) (lv' := [some (.ref r0), some (.int v1), some (.int v2), some (.int v3), some (.int v4), some (.int s0)]) dX9_addClient_96 rfl rfl rfl ?_
  exact (sX9_addClient_98 r0 v1 v2 v3 v4 s0)
theorem sX9_addClient_49  (r0 : Nat) (v1 : Int32) (v2 : Int32) (v3 : Int32) (v4 : Int32) (s0 : Int32) : Sm mX9_addClient rI 0 0 49 [some (.ref r0), some (.int v1), some (.int v2), some (.int v3), some (.int v4), none] [.int s0] (fX9_addClient_49 r0 v1 v2 v3 v4 s0) := by
  unfold fX9_addClient_49
  refine Z_istore (pc := 49) (lv' := [some (.ref r0), some (.int v1), some (.int v2), some (.int v3), some (.int v4), some (.int s0)]) dX9_addClient_49 rfl rfl rfl ?_
  refine S_iload (pc := 51) dX9_addClient_51 rfl ?_
  refine S_ifeq (pc := 53) (tgt := 98) dX9_addClient_53 (by decide) ?_ ?_
  · exact (sX9_addClient_98 r0 v1 v2 v3 v4 s0)
  · refine S_aload_n (pc := 56) dX9_addClient_56 rfl ?_
    refine S_iload_n (pc := 57) dX9_addClient_57 rfl ?_
    refine S_iload_n (pc := 58) dX9_addClient_58 rfl ?_
    refine S_iload_n (pc := 59) dX9_addClient_59 rfl ?_
    refine S_iload (pc := 60) dX9_addClient_60 rfl ?_
    refine S_aload_n (pc := 62) dX9_addClient_62 rfl ?_
    refine S_gP (pc := 63) fl_X9_16 rfl dX9_addClient_63 (fun a_32 => ?_)
    refine S_iconst (pc := 66) (v := (nI 1)) dX9_addClient_66 kI_1 ?_
    refine S_ldI (pc := 67) dX9_addClient_67 (fun x_33 => ?_)
    refine S_aload_n (pc := 68) dX9_addClient_68 rfl ?_
    refine S_gP (pc := 69) fl_X9_16 rfl dX9_addClient_69 (fun a_34 => ?_)
    refine S_iconst (pc := 72) (v := (nI 2)) dX9_addClient_72 kI_2 ?_
    refine S_ldI (pc := 73) dX9_addClient_73 (fun x_35 => ?_)
    refine S_aload_n (pc := 74) dX9_addClient_74 rfl ?_
    refine S_gP (pc := 75) fl_X9_16 rfl dX9_addClient_75 (fun a_36 => ?_)
    refine S_iconst (pc := 78) (v := (nI 3)) dX9_addClient_78 kI_3 ?_
    refine S_ldI (pc := 79) dX9_addClient_79 (fun x_37 => ?_)
    refine Y_Vv (pc := 80) (st := []) (kc' := 0) (ks' := 0) (ktX9_makes r0 v1 v2 v3 v4 x_33 x_35 x_37) mw_X9_makes mv_X9_makes w1197 (RO.mk rfl rfl rfl rfl) rfl rfl rfl dX9_addClient_80 ⟨rfl, rfl⟩ ?_
    refine S_aload_n (pc := 83) dX9_addClient_83 rfl ?_
    refine S_iconst (pc := 84) (v := (nI 0)) dX9_addClient_84 kI_0 ?_
    refine Y_Vi (pc := 85) (st := []) (kc' := 0) (ks' := 0) (ktX9_compiled r0 (nI 0)) mw_X9_compiled mv_X9_compiled w1201 (RO.mk rfl rfl rfl rfl) rfl rfl rfl dX9_addClient_85 ⟨rfl, rfl⟩ (fun x_38 => ?_)
    refine S_ifne (pc := 88) (tgt := 95) dX9_addClient_88 (by decide) ?_ ?_
    · refine S_iconst (pc := 95) (v := (nI 0)) dX9_addClient_95 kI_0 ?_
      exact (S_lv (lv0 := [some (.ref r0), some (.int v1), some (.int v2), some (.int v3), some (.int v4), none]) (And.intro rfl (And.intro rfl (And.intro rfl (And.intro rfl (And.intro rfl trivial))))) (sX9_addClient_96 r0 v1 v2 v3 v4 (nI 0)))
    · refine S_iconst (pc := 91) (v := (nI 1)) dX9_addClient_91 kI_1 ?_
      refine S_goto (pc := 92) (tgt := 96) dX9_addClient_92 (by decide) ?_
      exact (S_lv (lv0 := [some (.ref r0), some (.int v1), some (.int v2), some (.int v3), some (.int v4), none]) (And.intro rfl (And.intro rfl (And.intro rfl (And.intro rfl (And.intro rfl trivial))))) (sX9_addClient_96 r0 v1 v2 v3 v4 (nI 1)))
theorem sX9_addClient_48  (r0 : Nat) (v1 : Int32) (v2 : Int32) (v3 : Int32) (v4 : Int32) : Sm mX9_addClient rI 0 0 48 [some (.ref r0), some (.int v1), some (.int v2), some (.int v3), some (.int v4), none] [] (fX9_addClient_48 r0 v1 v2 v3 v4) := by
  unfold fX9_addClient_48
  refine S_iconst (pc := 48) (v := (nI 0)) dX9_addClient_48 kI_0 ?_
  exact (sX9_addClient_49 r0 v1 v2 v3 v4 (nI 0))
theorem sX9_addClient_34  (r0 : Nat) (v1 : Int32) (v2 : Int32) (v3 : Int32) (v4 : Int32) : Sm mX9_addClient rI 0 0 34 [some (.ref r0), some (.int v1), some (.int v2), some (.int v3), some (.int v4), none] [] (fX9_addClient_34 r0 v1 v2 v3 v4) := by
  unfold fX9_addClient_34
  refine S_iload (pc := 34) dX9_addClient_34 rfl ?_
  refine S_iconst (pc := 36) (v := (nI 0)) dX9_addClient_36 kI_0 ?_
  refine S_iconst (pc := 37) (v := (nI 3)) dX9_addClient_37 kI_3 ?_
  refine Y_Ti (pc := 38) (st := []) (kc' := 0) (ks' := 0) (ktX9_within v4 (nI 0) (nI 3)) mw_X9_within w1217 w1216 (RO.mk rfl rfl rfl rfl) rfl rfl rfl dX9_addClient_38 ⟨rfl, rfl⟩ (fun x_39 => ?_)
  refine S_ifeq (pc := 41) (tgt := 48) dX9_addClient_41 (by decide) ?_ ?_
  · exact (sX9_addClient_48 r0 v1 v2 v3 v4)
  · refine S_iconst (pc := 44) (v := (nI 1)) dX9_addClient_44 kI_1 ?_
    refine S_goto (pc := 45) (tgt := 49) dX9_addClient_45 (by decide) ?_
    exact (sX9_addClient_49 r0 v1 v2 v3 v4 (nI 1))
theorem sX9_addClient  (r0 : Nat) (v1 : Int32) (v2 : Int32) (v3 : Int32) (v4 : Int32) : Sm mX9_addClient rI 0 0 0 [some (.ref r0), some (.int v1), some (.int v2), some (.int v3), some (.int v4), none] [] (fX9_addClient r0 v1 v2 v3 v4) := by
  unfold fX9_addClient
  refine S_iload_n (pc := 0) dX9_addClient_0 rfl ?_
  refine S_iconst (pc := 1) (v := (nI 0)) dX9_addClient_1 kI_0 ?_
  refine S_iconst (pc := 2) (v := (nI 5)) dX9_addClient_2 kI_5 ?_
  refine Y_Ti (pc := 3) (st := []) (kc' := 0) (ks' := 0) (ktX9_within v1 (nI 0) (nI 5)) mw_X9_within w1217 w1216 (RO.mk rfl rfl rfl rfl) rfl rfl rfl dX9_addClient_3 ⟨rfl, rfl⟩ (fun x_40 => ?_)
  refine S_ifeq (pc := 6) (tgt := 48) dX9_addClient_6 (by decide) ?_ ?_
  · exact (sX9_addClient_48 r0 v1 v2 v3 v4)
  · refine S_iload_n (pc := 9) dX9_addClient_9 rfl ?_
    refine S_iconst (pc := 10) (v := (nI 0)) dX9_addClient_10 kI_0 ?_
    refine S_bipush (pc := 11) (v := (nI 9)) dX9_addClient_11 kB_9 ?_
    refine Y_Ti (pc := 13) (st := []) (kc' := 0) (ks' := 0) (ktX9_within v2 (nI 0) (nI 9)) mw_X9_within w1217 w1216 (RO.mk rfl rfl rfl rfl) rfl rfl rfl dX9_addClient_13 ⟨rfl, rfl⟩ (fun x_41 => ?_)
    refine S_ifeq (pc := 16) (tgt := 48) dX9_addClient_16 (by decide) ?_ ?_
    · exact (sX9_addClient_48 r0 v1 v2 v3 v4)
    · refine S_iload_n (pc := 19) dX9_addClient_19 rfl ?_
      refine S_iconst (pc := 20) (v := (nI 2)) dX9_addClient_20 kI_2 ?_
      refine S_icmpgt (pc := 21) (tgt := 34) dX9_addClient_21 (by decide) ?_ ?_
      · exact (sX9_addClient_34 r0 v1 v2 v3 v4)
      · refine S_iload_n (pc := 24) dX9_addClient_24 rfl ?_
        refine S_iconst (pc := 25) (v := (nI 0)) dX9_addClient_25 kI_0 ?_
        refine S_bipush (pc := 26) (v := (nI 7)) dX9_addClient_26 kB_7 ?_
        refine Y_Ti (pc := 28) (st := []) (kc' := 0) (ks' := 0) (ktX9_within v3 (nI 0) (nI 7)) mw_X9_within w1217 w1216 (RO.mk rfl rfl rfl rfl) rfl rfl rfl dX9_addClient_28 ⟨rfl, rfl⟩ (fun x_42 => ?_)
        refine S_ifeq (pc := 31) (tgt := 48) dX9_addClient_31 (by decide) ?_ ?_
        · exact (sX9_addClient_48 r0 v1 v2 v3 v4)
        · exact (sX9_addClient_34 r0 v1 v2 v3 v4)
theorem ktX9_addClient (r0 : Nat) (v1 : Int32) (v2 : Int32) (v3 : Int32) (v4 : Int32) : Ct mX9_addClient rI [.ref r0, .int v1, .int v2, .int v3, .int v4] (fX9_addClient r0 v1 v2 v3 v4) := Ct.of (z := 1) pn_X9 rfl rfl rfl (sX9_addClient r0 v1 v2 v3 v4)
def mX9_mayBeMethod : MI := (yX9_mayBeMethod, cX9_mayBeMethod, 6, (some .boolean), { frames := 3, cells := 0, slots := 0, locals := 66 }, [])
theorem mw_X9_mayBeMethod : MW mX9_mayBeMethod 4 := ⟨w1501, w11, ⟨by decide, by decide⟩, by decide +kernel⟩
theorem mv_X9_mayBeMethod : MV mX9_mayBeMethod 9 := ⟨_, rfl, w1500, wp84⟩
def fX9_mayBeMethod_48  (r0 : Nat) (v1 : Int32) (v2 : Int32) (v3 : Int32) (v4 : Int32) (s0 : Int32) : AH → Option (Int32 × AH) := fun h =>
  if s0 = 0 then (
    rz (nI 0) (nI 0) h)
  else
  bd (fX9_has v4 (nI 2) h) fun x_13 h =>
  if x_13 = 0 then (
    rz (nI 1) (nI 1) h)
  else
  if v4 = (nI 4) then (
    if v3 ≤ 0 then (
      rz (nI 0) (nI 0) h)
    else
    cv 9 r0 (fX9_of r0 v1 v2 (nI 7)) h fun x_14 h =>
    if x_14 = (nI 1) then (
      rz (nI 1) (nI 1) h)
    else
    rz (nI 0) (nI 0) h)
  else
  rz (nI 0) (nI 0) h
def fX9_mayBeMethod_47  (r0 : Nat) (v1 : Int32) (v2 : Int32) (v3 : Int32) (v4 : Int32) : AH → Option (Int32 × AH) := fun h =>
  fX9_mayBeMethod_48 r0 v1 v2 v3 v4 (nI 0) h
def fX9_mayBeMethod  (r0 : Nat) (v1 : Int32) (v2 : Int32) (v3 : Int32) (v4 : Int32) : AH → Option (Int32 × AH) := fun h =>
  bd (fX9_within v3 (nI 0) (nI 3) h) fun x_15 h =>
  if x_15 = 0 then (
    fX9_mayBeMethod_47 r0 v1 v2 v3 v4 h)
  else
  bd (fX9_within v4 (nI 0) (nI 7) h) fun x_16 h =>
  if x_16 = 0 then (
    fX9_mayBeMethod_47 r0 v1 v2 v3 v4 h)
  else
  cv 9 r0 (fX9_isInterface r0 v1 v2) h fun x_17 h =>
  if x_17 = 0 then (
    fX9_mayBeMethod_48 r0 v1 v2 v3 v4 (nI 1) h)
  else
  if v3 = (nI 3) then (
    bd (fX9_has v4 (nI 1) h) fun x_18 h =>
    if x_18 = 0 then (
      fX9_mayBeMethod_48 r0 v1 v2 v3 v4 (nI 1) h)
    else
    fX9_mayBeMethod_47 r0 v1 v2 v3 v4 h)
  else
  fX9_mayBeMethod_47 r0 v1 v2 v3 v4 h
theorem sX9_mayBeMethod_48  (r0 : Nat) (v1 : Int32) (v2 : Int32) (v3 : Int32) (v4 : Int32) (s0 : Int32) : Sm mX9_mayBeMethod rI 0 0 48 [some (.ref r0), some (.int v1), some (.int v2), some (.int v3), some (.int v4), none] [.int s0] (fX9_mayBeMethod_48 r0 v1 v2 v3 v4 s0) := by
  unfold fX9_mayBeMethod_48
  refine Z_istore (pc := 48) (lv' := [some (.ref r0), some (.int v1), some (.int v2), some (.int v3), some (.int v4), some (.int s0)]) dX9_mayBeMethod_48 rfl rfl rfl ?_
  refine S_iload (pc := 50) dX9_mayBeMethod_50 rfl ?_
  refine S_ifeq (pc := 52) (tgt := 90) dX9_mayBeMethod_52 (by decide) ?_ ?_
  · refine S_iconst (pc := 90) (v := (nI 0)) dX9_mayBeMethod_90 kI_0 ?_
    exact S_zret (pc := 91) ⟨rfl, rfl⟩ rfl rfl dX9_mayBeMethod_91
  · refine S_iload (pc := 55) dX9_mayBeMethod_55 rfl ?_
    refine S_iconst (pc := 57) (v := (nI 2)) dX9_mayBeMethod_57 kI_2 ?_
    refine Y_Ti (pc := 58) (st := []) (kc' := 0) (ks' := 0) (ktX9_has v4 (nI 2)) mw_X9_has w1252 w1251 (RO.mk rfl rfl rfl rfl) rfl rfl rfl dX9_mayBeMethod_58 ⟨rfl, rfl⟩ (fun x_13 => ?_)
    refine S_ifeq (pc := 61) (tgt := 86) dX9_mayBeMethod_61 (by decide) ?_ ?_
    · refine S_iconst (pc := 86) (v := (nI 1)) dX9_mayBeMethod_86 kI_1 ?_
      refine S_goto (pc := 87) (tgt := 91) dX9_mayBeMethod_87 (by decide) ?_
      exact S_zret (pc := 91) ⟨rfl, rfl⟩ rfl rfl dX9_mayBeMethod_91
    · refine S_iload (pc := 64) dX9_mayBeMethod_64 rfl ?_
      refine S_iconst (pc := 66) (v := (nI 4)) dX9_mayBeMethod_66 kI_4 ?_
      refine S_icmpne (pc := 67) (tgt := 90) dX9_mayBeMethod_67 (by decide) ?_ ?_
      · refine S_iconst (pc := 90) (v := (nI 0)) dX9_mayBeMethod_90 kI_0 ?_
        exact S_zret (pc := 91) ⟨rfl, rfl⟩ rfl rfl dX9_mayBeMethod_91
      · refine S_iload_n (pc := 70) dX9_mayBeMethod_70 rfl ?_
        refine S_ifle (pc := 71) (tgt := 90) dX9_mayBeMethod_71 (by decide) ?_ ?_
        · refine S_iconst (pc := 90) (v := (nI 0)) dX9_mayBeMethod_90 kI_0 ?_
          exact S_zret (pc := 91) ⟨rfl, rfl⟩ rfl rfl dX9_mayBeMethod_91
        · refine S_aload_n (pc := 74) dX9_mayBeMethod_74 rfl ?_
          refine S_iload_n (pc := 75) dX9_mayBeMethod_75 rfl ?_
          refine S_iload_n (pc := 76) dX9_mayBeMethod_76 rfl ?_
          refine S_bipush (pc := 77) (v := (nI 7)) dX9_mayBeMethod_77 kB_7 ?_
          refine Y_Vi (pc := 79) (st := []) (kc' := 0) (ks' := 0) (ktX9_of r0 v1 v2 (nI 7)) mw_X9_of mv_X9_of w1219 (RO.mk rfl rfl rfl rfl) rfl rfl rfl dX9_mayBeMethod_79 ⟨rfl, rfl⟩ (fun x_14 => ?_)
          refine S_iconst (pc := 82) (v := (nI 1)) dX9_mayBeMethod_82 kI_1 ?_
          refine S_icmpne (pc := 83) (tgt := 90) dX9_mayBeMethod_83 (by decide) ?_ ?_
          · refine S_iconst (pc := 90) (v := (nI 0)) dX9_mayBeMethod_90 kI_0 ?_
            exact S_zret (pc := 91) ⟨rfl, rfl⟩ rfl rfl dX9_mayBeMethod_91
          · refine S_iconst (pc := 86) (v := (nI 1)) dX9_mayBeMethod_86 kI_1 ?_
            refine S_goto (pc := 87) (tgt := 91) dX9_mayBeMethod_87 (by decide) ?_
            exact S_zret (pc := 91) ⟨rfl, rfl⟩ rfl rfl dX9_mayBeMethod_91
theorem sX9_mayBeMethod_47  (r0 : Nat) (v1 : Int32) (v2 : Int32) (v3 : Int32) (v4 : Int32) : Sm mX9_mayBeMethod rI 0 0 47 [some (.ref r0), some (.int v1), some (.int v2), some (.int v3), some (.int v4), none] [] (fX9_mayBeMethod_47 r0 v1 v2 v3 v4) := by
  unfold fX9_mayBeMethod_47
  refine S_iconst (pc := 47) (v := (nI 0)) dX9_mayBeMethod_47 kI_0 ?_
  exact (sX9_mayBeMethod_48 r0 v1 v2 v3 v4 (nI 0))
theorem sX9_mayBeMethod  (r0 : Nat) (v1 : Int32) (v2 : Int32) (v3 : Int32) (v4 : Int32) : Sm mX9_mayBeMethod rI 0 0 0 [some (.ref r0), some (.int v1), some (.int v2), some (.int v3), some (.int v4), none] [] (fX9_mayBeMethod r0 v1 v2 v3 v4) := by
  unfold fX9_mayBeMethod
  refine S_iload_n (pc := 0) dX9_mayBeMethod_0 rfl ?_
  refine S_iconst (pc := 1) (v := (nI 0)) dX9_mayBeMethod_1 kI_0 ?_
  refine S_iconst (pc := 2) (v := (nI 3)) dX9_mayBeMethod_2 kI_3 ?_
  refine Y_Ti (pc := 3) (st := []) (kc' := 0) (ks' := 0) (ktX9_within v3 (nI 0) (nI 3)) mw_X9_within w1217 w1216 (RO.mk rfl rfl rfl rfl) rfl rfl rfl dX9_mayBeMethod_3 ⟨rfl, rfl⟩ (fun x_15 => ?_)
  refine S_ifeq (pc := 6) (tgt := 47) dX9_mayBeMethod_6 (by decide) ?_ ?_
  · exact (sX9_mayBeMethod_47 r0 v1 v2 v3 v4)
  · refine S_iload (pc := 9) dX9_mayBeMethod_9 rfl ?_
    refine S_iconst (pc := 11) (v := (nI 0)) dX9_mayBeMethod_11 kI_0 ?_
    refine S_bipush (pc := 12) (v := (nI 7)) dX9_mayBeMethod_12 kB_7 ?_
    refine Y_Ti (pc := 14) (st := []) (kc' := 0) (ks' := 0) (ktX9_within v4 (nI 0) (nI 7)) mw_X9_within w1217 w1216 (RO.mk rfl rfl rfl rfl) rfl rfl rfl dX9_mayBeMethod_14 ⟨rfl, rfl⟩ (fun x_16 => ?_)
    refine S_ifeq (pc := 17) (tgt := 47) dX9_mayBeMethod_17 (by decide) ?_ ?_
    · exact (sX9_mayBeMethod_47 r0 v1 v2 v3 v4)
    · refine S_aload_n (pc := 20) dX9_mayBeMethod_20 rfl ?_
      refine S_iload_n (pc := 21) dX9_mayBeMethod_21 rfl ?_
      refine S_iload_n (pc := 22) dX9_mayBeMethod_22 rfl ?_
      refine Y_Vi (pc := 23) (st := []) (kc' := 0) (ks' := 0) (ktX9_isInterface r0 v1 v2) mw_X9_isInterface mv_X9_isInterface w1282 (RO.mk rfl rfl rfl rfl) rfl rfl rfl dX9_mayBeMethod_23 ⟨rfl, rfl⟩ (fun x_17 => ?_)
      refine S_ifeq (pc := 26) (tgt := 43) dX9_mayBeMethod_26 (by decide) ?_ ?_
      · refine S_iconst (pc := 43) (v := (nI 1)) dX9_mayBeMethod_43 kI_1 ?_
        refine S_goto (pc := 44) (tgt := 48) dX9_mayBeMethod_44 (by decide) ?_
        exact (sX9_mayBeMethod_48 r0 v1 v2 v3 v4 (nI 1))
      · refine S_iload_n (pc := 29) dX9_mayBeMethod_29 rfl ?_
        refine S_iconst (pc := 30) (v := (nI 3)) dX9_mayBeMethod_30 kI_3 ?_
        refine S_icmpne (pc := 31) (tgt := 47) dX9_mayBeMethod_31 (by decide) ?_ ?_
        · exact (sX9_mayBeMethod_47 r0 v1 v2 v3 v4)
        · refine S_iload (pc := 34) dX9_mayBeMethod_34 rfl ?_
          refine S_iconst (pc := 36) (v := (nI 1)) dX9_mayBeMethod_36 kI_1 ?_
          refine Y_Ti (pc := 37) (st := []) (kc' := 0) (ks' := 0) (ktX9_has v4 (nI 1)) mw_X9_has w1252 w1251 (RO.mk rfl rfl rfl rfl) rfl rfl rfl dX9_mayBeMethod_37 ⟨rfl, rfl⟩ (fun x_18 => ?_)
          refine S_ifne (pc := 40) (tgt := 47) dX9_mayBeMethod_40 (by decide) ?_ ?_
          · exact (sX9_mayBeMethod_47 r0 v1 v2 v3 v4)
          · refine S_iconst (pc := 43) (v := (nI 1)) dX9_mayBeMethod_43 kI_1 ?_
            refine S_goto (pc := 44) (tgt := 48) dX9_mayBeMethod_44 (by decide) ?_
            exact (sX9_mayBeMethod_48 r0 v1 v2 v3 v4 (nI 1))
theorem ktX9_mayBeMethod (r0 : Nat) (v1 : Int32) (v2 : Int32) (v3 : Int32) (v4 : Int32) : Ct mX9_mayBeMethod rI [.ref r0, .int v1, .int v2, .int v3, .int v4] (fX9_mayBeMethod r0 v1 v2 v3 v4) := Ct.of (z := 1) pn_X9 rfl rfl rfl (sX9_mayBeMethod r0 v1 v2 v3 v4)
def mX9_mayBeField : MI := (yX9_mayBeField, cX9_mayBeField, 5, (some .boolean), { frames := 3, cells := 0, slots := 0, locals := 66 }, [])
theorem mw_X9_mayBeField : MW mX9_mayBeField 4 := ⟨w1505, w11, ⟨by decide, by decide⟩, by decide +kernel⟩
theorem mv_X9_mayBeField : MV mX9_mayBeField 9 := ⟨_, rfl, w1504, wp85⟩
def fX9_mayBeField  (r0 : Nat) (v1 : Int32) (v2 : Int32) (v3 : Int32) (v4 : Int32) : AH → Option (Int32 × AH) := fun h =>
  bd (fX9_within v3 (nI 0) (nI 3) h) fun x_4 h =>
  if x_4 = 0 then (
    rz (nI 0) (nI 0) h)
  else
  bd (fX9_within v4 (nI 0) (nI 3) h) fun x_5 h =>
  if x_5 = 0 then (
    rz (nI 0) (nI 0) h)
  else
  cv 9 r0 (fX9_isInterface r0 v1 v2) h fun x_6 h =>
  if x_6 = 0 then (
    rz (nI 1) (nI 1) h)
  else
  if v3 = (nI 3) then (
    if v4 = (nI 3) then (
      rz (nI 1) (nI 1) h)
    else
    rz (nI 0) (nI 0) h)
  else
  rz (nI 0) (nI 0) h
theorem sX9_mayBeField  (r0 : Nat) (v1 : Int32) (v2 : Int32) (v3 : Int32) (v4 : Int32) : Sm mX9_mayBeField rI 0 0 0 [some (.ref r0), some (.int v1), some (.int v2), some (.int v3), some (.int v4)] [] (fX9_mayBeField r0 v1 v2 v3 v4) := by
  unfold fX9_mayBeField
  refine S_iload_n (pc := 0) dX9_mayBeField_0 rfl ?_
  refine S_iconst (pc := 1) (v := (nI 0)) dX9_mayBeField_1 kI_0 ?_
  refine S_iconst (pc := 2) (v := (nI 3)) dX9_mayBeField_2 kI_3 ?_
  refine Y_Ti (pc := 3) (st := []) (kc' := 0) (ks' := 0) (ktX9_within v3 (nI 0) (nI 3)) mw_X9_within w1217 w1216 (RO.mk rfl rfl rfl rfl) rfl rfl rfl dX9_mayBeField_3 ⟨rfl, rfl⟩ (fun x_4 => ?_)
  refine S_ifeq (pc := 6) (tgt := 43) dX9_mayBeField_6 (by decide) ?_ ?_
  · refine S_iconst (pc := 43) (v := (nI 0)) dX9_mayBeField_43 kI_0 ?_
    exact S_zret (pc := 44) ⟨rfl, rfl⟩ rfl rfl dX9_mayBeField_44
  · refine S_iload (pc := 9) dX9_mayBeField_9 rfl ?_
    refine S_iconst (pc := 11) (v := (nI 0)) dX9_mayBeField_11 kI_0 ?_
    refine S_iconst (pc := 12) (v := (nI 3)) dX9_mayBeField_12 kI_3 ?_
    refine Y_Ti (pc := 13) (st := []) (kc' := 0) (ks' := 0) (ktX9_within v4 (nI 0) (nI 3)) mw_X9_within w1217 w1216 (RO.mk rfl rfl rfl rfl) rfl rfl rfl dX9_mayBeField_13 ⟨rfl, rfl⟩ (fun x_5 => ?_)
    refine S_ifeq (pc := 16) (tgt := 43) dX9_mayBeField_16 (by decide) ?_ ?_
    · refine S_iconst (pc := 43) (v := (nI 0)) dX9_mayBeField_43 kI_0 ?_
      exact S_zret (pc := 44) ⟨rfl, rfl⟩ rfl rfl dX9_mayBeField_44
    · refine S_aload_n (pc := 19) dX9_mayBeField_19 rfl ?_
      refine S_iload_n (pc := 20) dX9_mayBeField_20 rfl ?_
      refine S_iload_n (pc := 21) dX9_mayBeField_21 rfl ?_
      refine Y_Vi (pc := 22) (st := []) (kc' := 0) (ks' := 0) (ktX9_isInterface r0 v1 v2) mw_X9_isInterface mv_X9_isInterface w1282 (RO.mk rfl rfl rfl rfl) rfl rfl rfl dX9_mayBeField_22 ⟨rfl, rfl⟩ (fun x_6 => ?_)
      refine S_ifeq (pc := 25) (tgt := 39) dX9_mayBeField_25 (by decide) ?_ ?_
      · refine S_iconst (pc := 39) (v := (nI 1)) dX9_mayBeField_39 kI_1 ?_
        refine S_goto (pc := 40) (tgt := 44) dX9_mayBeField_40 (by decide) ?_
        exact S_zret (pc := 44) ⟨rfl, rfl⟩ rfl rfl dX9_mayBeField_44
      · refine S_iload_n (pc := 28) dX9_mayBeField_28 rfl ?_
        refine S_iconst (pc := 29) (v := (nI 3)) dX9_mayBeField_29 kI_3 ?_
        refine S_icmpne (pc := 30) (tgt := 43) dX9_mayBeField_30 (by decide) ?_ ?_
        · refine S_iconst (pc := 43) (v := (nI 0)) dX9_mayBeField_43 kI_0 ?_
          exact S_zret (pc := 44) ⟨rfl, rfl⟩ rfl rfl dX9_mayBeField_44
        · refine S_iload (pc := 33) dX9_mayBeField_33 rfl ?_
          refine S_iconst (pc := 35) (v := (nI 3)) dX9_mayBeField_35 kI_3 ?_
          refine S_icmpne (pc := 36) (tgt := 43) dX9_mayBeField_36 (by decide) ?_ ?_
          · refine S_iconst (pc := 43) (v := (nI 0)) dX9_mayBeField_43 kI_0 ?_
            exact S_zret (pc := 44) ⟨rfl, rfl⟩ rfl rfl dX9_mayBeField_44
          · refine S_iconst (pc := 39) (v := (nI 1)) dX9_mayBeField_39 kI_1 ?_
            refine S_goto (pc := 40) (tgt := 44) dX9_mayBeField_40 (by decide) ?_
            exact S_zret (pc := 44) ⟨rfl, rfl⟩ rfl rfl dX9_mayBeField_44
theorem ktX9_mayBeField (r0 : Nat) (v1 : Int32) (v2 : Int32) (v3 : Int32) (v4 : Int32) : Ct mX9_mayBeField rI [.ref r0, .int v1, .int v2, .int v3, .int v4] (fX9_mayBeField r0 v1 v2 v3 v4) := Ct.of (z := 0) pn_X9 rfl rfl rfl (sX9_mayBeField r0 v1 v2 v3 v4)
def mX9_adds : MI := (yX9_adds, cX9_adds, 12, (some .int), { frames := 1, cells := 0, slots := 0, locals := 21 }, [])
theorem mw_X9_adds : MW mX9_adds 9 := ⟨w1185, w11, ⟨by decide, by decide⟩, by decide +kernel⟩
theorem mv_X9_adds : MV mX9_adds 9 := ⟨_, rfl, w1184, wp35⟩
def fX9_adds_112  (r0 : Nat) (v1 : Int32) (v10 : Int32) (v11 : Int32) (s0 : Nat) (s1 : Int32) (s2 : Int32) : AH → Option (Int32 × AH) := fun h =>
  (stI s0 s1 s2 h).bind fun h =>
  (gP 9 r0 0 h).bind fun a_29 =>
  (stI a_29 ((v11 + (nI 7)) + (nI 1)) (-2 : Int32) h).bind fun h =>
  (gP 9 r0 0 h).bind fun a_30 =>
  (stI a_30 (v11 + (nI 9)) (-2 : Int32) h).bind fun h =>
  (gP 9 r0 0 h).bind fun a_31 =>
  (ldI a_31 (((nI 481) * v1) + (nI 80)) h).bind fun x_32 =>
  (stI a_31 (((nI 481) * v1) + (nI 80)) (x_32 + (nI 1)) h).bind fun h =>
  some (v10, h)
def fX9_adds  (r0 : Nat) (v1 : Int32) (v2 : Int32) (v3 : Int32) (v4 : Int32) (v5 : Int32) (v6 : Int32) (v7 : Int32) (v8 : Int32) (v9 : Int32) : AH → Option (Int32 × AH) := fun h =>
  cv 9 r0 (fX9_memberMany r0 v1) h fun x_33 h =>
  bd (fX9_member v1 x_33 h) fun x_34 h =>
  (gP 9 r0 0 h).bind fun a_35 =>
  (stI a_35 (x_34 + (nI 0)) v2 h).bind fun h =>
  (gP 9 r0 0 h).bind fun a_36 =>
  (stI a_36 (x_34 + (nI 1)) v3 h).bind fun h =>
  (gP 9 r0 0 h).bind fun a_37 =>
  (stI a_37 (x_34 + (nI 2)) v4 h).bind fun h =>
  (gP 9 r0 0 h).bind fun a_38 =>
  (stI a_38 (x_34 + (nI 3)) v5 h).bind fun h =>
  (gP 9 r0 0 h).bind fun a_39 =>
  (stI a_39 (x_34 + (nI 4)) v6 h).bind fun h =>
  (gP 9 r0 0 h).bind fun a_40 =>
  (stI a_40 (x_34 + (nI 5)) v7 h).bind fun h =>
  (gP 9 r0 0 h).bind fun a_41 =>
  (stI a_41 (x_34 + (nI 6)) v8 h).bind fun h =>
  (gP 9 r0 0 h).bind fun a_42 =>
  if v8 ≤ 0 then (
    fX9_adds_112 r0 v1 x_33 x_34 a_42 (x_34 + (nI 7)) (-2 : Int32) h)
  else
  fX9_adds_112 r0 v1 x_33 x_34 a_42 (x_34 + (nI 7)) v9 h
theorem sX9_adds_112  (r0 : Nat) (v1 : Int32) (v10 : Int32) (v11 : Int32) (s0 : Nat) (s1 : Int32) (s2 : Int32) : Sm mX9_adds rI 0 0 112 [some (.ref r0), some (.int v1), none, none, none, none, none, none, none, none, some (.int v10), some (.int v11)] [.int s2, .int s1, .ref s0] (fX9_adds_112 r0 v1 v10 v11 s0 s1 s2) := by
  unfold fX9_adds_112
  refine S_stI (pc := 112) dX9_adds_112 ?_
  refine S_aload_n (pc := 113) dX9_adds_113 rfl ?_
  refine S_gP (pc := 114) fl_X9_7 rfl dX9_adds_114 (fun a_29 => ?_)
  refine S_iload (pc := 117) dX9_adds_117 rfl ?_
  refine S_bipush (pc := 119) (v := (nI 7)) dX9_adds_119 kB_7 ?_
  refine S_iadd (pc := 121) dX9_adds_121 ?_
  refine S_iconst (pc := 122) (v := (nI 1)) dX9_adds_122 kI_1 ?_
  refine S_iadd (pc := 123) dX9_adds_123 ?_
  refine S_bipush (pc := 124) (v := (-2 : Int32)) dX9_adds_124 kB_m2 ?_
  refine S_stI (pc := 126) dX9_adds_126 ?_
  refine S_aload_n (pc := 127) dX9_adds_127 rfl ?_
  refine S_gP (pc := 128) fl_X9_7 rfl dX9_adds_128 (fun a_30 => ?_)
  refine S_iload (pc := 131) dX9_adds_131 rfl ?_
  refine S_bipush (pc := 133) (v := (nI 9)) dX9_adds_133 kB_9 ?_
  refine S_iadd (pc := 135) dX9_adds_135 ?_
  refine S_bipush (pc := 136) (v := (-2 : Int32)) dX9_adds_136 kB_m2 ?_
  refine S_stI (pc := 138) dX9_adds_138 ?_
  refine S_aload_n (pc := 139) dX9_adds_139 rfl ?_
  refine S_gP (pc := 140) fl_X9_7 rfl dX9_adds_140 (fun a_31 => ?_)
  refine S_sipush (pc := 143) (v := (nI 481)) dX9_adds_143 kS_481 ?_
  refine S_iload_n (pc := 146) dX9_adds_146 rfl ?_
  refine S_imul (pc := 147) dX9_adds_147 ?_
  refine S_bipush (pc := 148) (v := (nI 80)) dX9_adds_148 kB_80 ?_
  refine S_iadd (pc := 150) dX9_adds_150 ?_
  refine S_dup2 (pc := 151) rfl rfl dX9_adds_151 ?_
  refine S_ldI (pc := 152) dX9_adds_152 (fun x_32 => ?_)
  refine S_iconst (pc := 153) (v := (nI 1)) dX9_adds_153 kI_1 ?_
  refine S_iadd (pc := 154) dX9_adds_154 ?_
  refine S_stI (pc := 155) dX9_adds_155 ?_
  refine S_iload (pc := 156) dX9_adds_156 rfl ?_
  exact S_iret (pc := 158) ⟨rfl, rfl⟩ rfl rfl dX9_adds_158
theorem sX9_adds  (r0 : Nat) (v1 : Int32) (v2 : Int32) (v3 : Int32) (v4 : Int32) (v5 : Int32) (v6 : Int32) (v7 : Int32) (v8 : Int32) (v9 : Int32) : Sm mX9_adds rI 0 0 0 [some (.ref r0), some (.int v1), some (.int v2), some (.int v3), some (.int v4), some (.int v5), some (.int v6), some (.int v7), some (.int v8), some (.int v9), none, none] [] (fX9_adds r0 v1 v2 v3 v4 v5 v6 v7 v8 v9) := by
  unfold fX9_adds
  refine S_aload_n (pc := 0) dX9_adds_0 rfl ?_
  refine S_iload_n (pc := 1) dX9_adds_1 rfl ?_
  refine Y_Vi (pc := 2) (st := []) (kc' := 0) (ks' := 0) (ktX9_memberMany r0 v1) mw_X9_memberMany mv_X9_memberMany w1186 (RO.mk rfl rfl rfl rfl) rfl rfl rfl dX9_adds_2 ⟨rfl, rfl⟩ (fun x_33 => ?_)
  refine Z_istore (pc := 5) (lv' := [some (.ref r0), some (.int v1), some (.int v2), some (.int v3), some (.int v4), some (.int v5), some (.int v6), some (.int v7), some (.int v8), some (.int v9), some (.int x_33), none]) dX9_adds_5 rfl rfl rfl ?_
  refine S_iload_n (pc := 7) dX9_adds_7 rfl ?_
  refine S_iload (pc := 8) dX9_adds_8 rfl ?_
  refine Y_Ti (pc := 10) (st := []) (kc' := 0) (ks' := 0) (ktX9_member v1 x_33) mw_X9_member w1191 w1190 (RO.mk rfl rfl rfl rfl) rfl rfl rfl dX9_adds_10 ⟨rfl, rfl⟩ (fun x_34 => ?_)
  refine Z_istore (pc := 13) (lv' := [some (.ref r0), some (.int v1), some (.int v2), some (.int v3), some (.int v4), some (.int v5), some (.int v6), some (.int v7), some (.int v8), some (.int v9), some (.int x_33), some (.int x_34)]) dX9_adds_13 rfl rfl rfl ?_
  refine S_aload_n (pc := 15) dX9_adds_15 rfl ?_
  refine S_gP (pc := 16) fl_X9_7 rfl dX9_adds_16 (fun a_35 => ?_)
  refine S_iload (pc := 19) dX9_adds_19 rfl ?_
  refine S_iconst (pc := 21) (v := (nI 0)) dX9_adds_21 kI_0 ?_
  refine S_iadd (pc := 22) dX9_adds_22 ?_
  refine S_iload_n (pc := 23) dX9_adds_23 rfl ?_
  refine S_stI (pc := 24) dX9_adds_24 ?_
  refine S_aload_n (pc := 25) dX9_adds_25 rfl ?_
  refine S_gP (pc := 26) fl_X9_7 rfl dX9_adds_26 (fun a_36 => ?_)
  refine S_iload (pc := 29) dX9_adds_29 rfl ?_
  refine S_iconst (pc := 31) (v := (nI 1)) dX9_adds_31 kI_1 ?_
  refine S_iadd (pc := 32) dX9_adds_32 ?_
  refine S_iload_n (pc := 33) dX9_adds_33 rfl ?_
  refine S_stI (pc := 34) dX9_adds_34 ?_
  refine S_aload_n (pc := 35) dX9_adds_35 rfl ?_
  refine S_gP (pc := 36) fl_X9_7 rfl dX9_adds_36 (fun a_37 => ?_)
  refine S_iload (pc := 39) dX9_adds_39 rfl ?_
  refine S_iconst (pc := 41) (v := (nI 2)) dX9_adds_41 kI_2 ?_
  refine S_iadd (pc := 42) dX9_adds_42 ?_
  refine S_iload (pc := 43) dX9_adds_43 rfl ?_
  refine S_stI (pc := 45) dX9_adds_45 ?_
  refine S_aload_n (pc := 46) dX9_adds_46 rfl ?_
  refine S_gP (pc := 47) fl_X9_7 rfl dX9_adds_47 (fun a_38 => ?_)
  refine S_iload (pc := 50) dX9_adds_50 rfl ?_
  refine S_iconst (pc := 52) (v := (nI 3)) dX9_adds_52 kI_3 ?_
  refine S_iadd (pc := 53) dX9_adds_53 ?_
  refine S_iload (pc := 54) dX9_adds_54 rfl ?_
  refine S_stI (pc := 56) dX9_adds_56 ?_
  refine S_aload_n (pc := 57) dX9_adds_57 rfl ?_
  refine S_gP (pc := 58) fl_X9_7 rfl dX9_adds_58 (fun a_39 => ?_)
  refine S_iload (pc := 61) dX9_adds_61 rfl ?_
  refine S_iconst (pc := 63) (v := (nI 4)) dX9_adds_63 kI_4 ?_
  refine S_iadd (pc := 64) dX9_adds_64 ?_
  refine S_iload (pc := 65) dX9_adds_65 rfl ?_
  refine S_stI (pc := 67) dX9_adds_67 ?_
  refine S_aload_n (pc := 68) dX9_adds_68 rfl ?_
  refine S_gP (pc := 69) fl_X9_7 rfl dX9_adds_69 (fun a_40 => ?_)
  refine S_iload (pc := 72) dX9_adds_72 rfl ?_
  refine S_iconst (pc := 74) (v := (nI 5)) dX9_adds_74 kI_5 ?_
  refine S_iadd (pc := 75) dX9_adds_75 ?_
  refine S_iload (pc := 76) dX9_adds_76 rfl ?_
  refine S_stI (pc := 78) dX9_adds_78 ?_
  refine S_aload_n (pc := 79) dX9_adds_79 rfl ?_
  refine S_gP (pc := 80) fl_X9_7 rfl dX9_adds_80 (fun a_41 => ?_)
  refine S_iload (pc := 83) dX9_adds_83 rfl ?_
  refine S_bipush (pc := 85) (v := (nI 6)) dX9_adds_85 kB_6 ?_
  refine S_iadd (pc := 87) dX9_adds_87 ?_
  refine S_iload (pc := 88) dX9_adds_88 rfl ?_
  refine S_stI (pc := 90) dX9_adds_90 ?_
  refine S_aload_n (pc := 91) dX9_adds_91 rfl ?_
  refine S_gP (pc := 92) fl_X9_7 rfl dX9_adds_92 (fun a_42 => ?_)
  refine S_iload (pc := 95) dX9_adds_95 rfl ?_
  refine S_bipush (pc := 97) (v := (nI 7)) dX9_adds_97 kB_7 ?_
  refine S_iadd (pc := 99) dX9_adds_99 ?_
  refine S_iload (pc := 100) dX9_adds_100 rfl ?_
  refine S_ifle (pc := 102) (tgt := 110) dX9_adds_102 (by decide) ?_ ?_
  · refine S_bipush (pc := 110) (v := (-2 : Int32)) dX9_adds_110 kB_m2 ?_
    exact (S_lv (lv0 := [some (.ref r0), some (.int v1), none, none, none, none, none, none, none, none, some (.int x_33), some (.int x_34)]) (And.intro rfl (And.intro rfl (And.intro rfl (And.intro rfl trivial)))) (sX9_adds_112 r0 v1 x_33 x_34 a_42 (x_34 + (nI 7)) (-2 : Int32)))
  · refine S_iload (pc := 105) dX9_adds_105 rfl ?_
    refine S_goto (pc := 107) (tgt := 112) dX9_adds_107 (by decide) ?_
    exact (S_lv (lv0 := [some (.ref r0), some (.int v1), none, none, none, none, none, none, none, none, some (.int x_33), some (.int x_34)]) (And.intro rfl (And.intro rfl (And.intro rfl (And.intro rfl trivial)))) (sX9_adds_112 r0 v1 x_33 x_34 a_42 (x_34 + (nI 7)) v9))
theorem ktX9_adds (r0 : Nat) (v1 : Int32) (v2 : Int32) (v3 : Int32) (v4 : Int32) (v5 : Int32) (v6 : Int32) (v7 : Int32) (v8 : Int32) (v9 : Int32) : Ct mX9_adds rI [.ref r0, .int v1, .int v2, .int v3, .int v4, .int v5, .int v6, .int v7, .int v8, .int v9] (fX9_adds r0 v1 v2 v3 v4 v5 v6 v7 v8 v9) := Ct.of (z := 2) pn_X9 rfl rfl rfl (sX9_adds r0 v1 v2 v3 v4 v5 v6 v7 v8 v9)
def mX9_added : MI := (yX9_added, cX9_added, 11, (some .int), { frames := 4, cells := 0, slots := 0, locals := 98 }, [])
theorem mw_X9_added : MW mX9_added 6 := ⟨w1497, w11, ⟨by decide, by decide⟩, by decide +kernel⟩
theorem mv_X9_added : MV mX9_added 9 := ⟨_, rfl, w1496, wp83⟩
def fX9_added_195  (r0 : Nat) (v1 : Int32) (v2 : Int32) (s0 : Nat) (s1 : Int32) (s2 : Int32) (s3 : Int32) (s4 : Int32) (s5 : Int32) (s6 : Int32) (s7 : Int32) (s8 : Int32) : AH → Option (Int32 × AH) := fun h =>
  (gP 9 r0 4 h).bind fun a_53 =>
  (ldI a_53 (nI 2) h).bind fun x_54 =>
  cv 9 s0 (fX9_adds s0 s1 s2 s3 s4 s5 s6 s7 s8 x_54) h fun x_55 h =>
  if v2 = (nI 1) then (
    (gP 9 r0 4 h).bind fun a_56 =>
    (ldI a_56 (nI 1) h).bind fun x_57 =>
    if x_57 = (nI 2) then (
      (gP 9 r0 0 h).bind fun a_58 =>
      bd (fX9_member v1 x_55 h) fun x_59 h =>
      (gP 9 r0 4 h).bind fun a_60 =>
      (ldI a_60 (nI 3) h).bind fun x_61 =>
      (stI a_58 ((x_59 + (nI 7)) + (nI 1)) x_61 h).bind fun h =>
      some (x_55, h))
    else
    some (x_55, h))
  else
  some (x_55, h)
def fX9_added_152  (r0 : Nat) (v1 : Int32) (v2 : Int32) (v3 : Int32) (v4 : Int32) (v5 : Int32) (v6 : Int32) (s0 : Nat) (s1 : Int32) : AH → Option (Int32 × AH) := fun h =>
  cv 9 s0 (fX9_refused s0 s1) h fun x_62 h =>
  if x_62 = 0 then (
    cv 9 r0 (fX9_saves r0) h fun _ h =>
    (gP 9 r0 4 h).bind fun a_63 =>
    (ldI a_63 (nI 0) h).bind fun x_64 =>
    if v2 = (nI 1) then (
      (gP 9 r0 4 h).bind fun a_65 =>
      (ldI a_65 (nI 1) h).bind fun x_66 =>
      fX9_added_195 r0 v1 v2 r0 v1 v2 v3 v4 v5 v6 x_64 x_66 h)
    else
    fX9_added_195 r0 v1 v2 r0 v1 v2 v3 v4 v5 v6 x_64 (nI 0) h)
  else
  some ((nI 0), h)
def fX9_added_121  (r0 : Nat) (v1 : Int32) (v2 : Int32) (v3 : Int32) (v4 : Int32) (v5 : Int32) (v6 : Int32) (v7 : Int32) (v8 : Int32) (s0 : Int32) : AH → Option (Int32 × AH) := fun h =>
  if v7 = 0 then (
    fX9_added_152 r0 v1 v2 v3 v4 v5 v6 r0 (nI 1) h)
  else
  if v8 = 0 then (
    fX9_added_152 r0 v1 v2 v3 v4 v5 v6 r0 (nI 2) h)
  else
  if s0 = 0 then (
    fX9_added_152 r0 v1 v2 v3 v4 v5 v6 r0 (nI 3) h)
  else
  fX9_added_152 r0 v1 v2 v3 v4 v5 v6 r0 (nI 0) h
def fX9_added_120  (r0 : Nat) (v1 : Int32) (v2 : Int32) (v3 : Int32) (v4 : Int32) (v5 : Int32) (v6 : Int32) (v7 : Int32) (v8 : Int32) : AH → Option (Int32 × AH) := fun h =>
  fX9_added_121 r0 v1 v2 v3 v4 v5 v6 v7 v8 (nI 0) h
def fX9_added_63  (r0 : Nat) (v1 : Int32) (v2 : Int32) (v3 : Int32) (v4 : Int32) (v5 : Int32) (v6 : Int32) (v7 : Int32) (s0 : Int32) : AH → Option (Int32 × AH) := fun h =>
  if s0 = 0 then (
    fX9_added_120 r0 v1 v2 v3 v4 v5 v6 v7 s0 h)
  else
  if v3 = 0 then (
    fX9_added_120 r0 v1 v2 v3 v4 v5 v6 v7 s0 h)
  else
  cv 9 r0 (fX9_memberMany r0 v1) h fun x_67 h =>
  if (nI 40) ≤ x_67 then (
    fX9_added_120 r0 v1 v2 v3 v4 v5 v6 v7 s0 h)
  else
  (gP 9 r0 4 h).bind fun a_68 =>
  (ldI a_68 (nI 1) h).bind fun x_69 =>
  (gP 9 r0 4 h).bind fun a_70 =>
  (ldI a_70 (nI 2) h).bind fun x_71 =>
  (gP 9 r0 4 h).bind fun a_72 =>
  (ldI a_72 (nI 3) h).bind fun x_73 =>
  cv 9 r0 (fX9_found r0 v1 v3 v2 v4 x_69 x_71 x_73) h fun x_74 h =>
  if x_74 = (-2 : Int32) then (
    fX9_added_121 r0 v1 v2 v3 v4 v5 v6 v7 s0 (nI 1) h)
  else
  fX9_added_120 r0 v1 v2 v3 v4 v5 v6 v7 s0 h
def fX9_added_62  (r0 : Nat) (v1 : Int32) (v2 : Int32) (v3 : Int32) (v4 : Int32) (v5 : Int32) (v6 : Int32) (v7 : Int32) : AH → Option (Int32 × AH) := fun h =>
  fX9_added_63 r0 v1 v2 v3 v4 v5 v6 v7 (nI 0) h
def fX9_added  (r0 : Nat) (v1 : Int32) (v2 : Int32) (v3 : Int32) (v4 : Int32) (v5 : Int32) (v6 : Int32) : AH → Option (Int32 × AH) := fun h =>
  cv 9 r0 (fX9_isClass r0 v1 v3) h fun x_75 h =>
  if x_75 = 0 then (
    fX9_added_62 r0 v1 v2 v3 v4 v5 v6 x_75 h)
  else
  bd (fX9_within v4 (nI 0) (nI 7) h) fun x_76 h =>
  if x_76 = 0 then (
    fX9_added_62 r0 v1 v2 v3 v4 v5 v6 x_75 h)
  else
  if v2 = (nI 1) then (
    cv 9 r0 (fX9_mayBeMethod r0 v1 v3 v5 v6) h fun x_78 h =>
    if x_78 = 0 then (
      fX9_added_62 r0 v1 v2 v3 v4 v5 v6 x_75 h)
    else
    fX9_added_63 r0 v1 v2 v3 v4 v5 v6 x_75 (nI 1) h)
  else
  cv 9 r0 (fX9_mayBeField r0 v1 v3 v5 v6) h fun x_77 h =>
  if x_77 = 0 then (
    fX9_added_62 r0 v1 v2 v3 v4 v5 v6 x_75 h)
  else
  fX9_added_63 r0 v1 v2 v3 v4 v5 v6 x_75 (nI 1) h
theorem sX9_added_195  (r0 : Nat) (v1 : Int32) (v2 : Int32) (s0 : Nat) (s1 : Int32) (s2 : Int32) (s3 : Int32) (s4 : Int32) (s5 : Int32) (s6 : Int32) (s7 : Int32) (s8 : Int32) : Sm mX9_added rI 0 0 195 [some (.ref r0), some (.int v1), some (.int v2), none, none, none, none, none, none, none, none] [.int s8, .int s7, .int s6, .int s5, .int s4, .int s3, .int s2, .int s1, .ref s0] (fX9_added_195 r0 v1 v2 s0 s1 s2 s3 s4 s5 s6 s7 s8) := by
  unfold fX9_added_195
  refine S_aload_n (pc := 195) dX9_added_195 rfl ?_
  refine S_gP (pc := 196) fl_X9_16 rfl dX9_added_196 (fun a_53 => ?_)
  refine S_iconst (pc := 199) (v := (nI 2)) dX9_added_199 kI_2 ?_
  refine S_ldI (pc := 200) dX9_added_200 (fun x_54 => ?_)
  refine Y_Vi (pc := 201) (st := []) (kc' := 0) (ks' := 0) (ktX9_adds s0 s1 s2 s3 s4 s5 s6 s7 s8 x_54) mw_X9_adds mv_X9_adds w1182 (RO.mk rfl rfl rfl rfl) rfl rfl rfl dX9_added_201 ⟨rfl, rfl⟩ (fun x_55 => ?_)
  refine Z_istore (pc := 204) (lv' := [some (.ref r0), some (.int v1), some (.int v2), none, none, none, none, none, none, none, some (.int x_55)]) dX9_added_204 rfl rfl rfl ?_
  refine S_iload_n (pc := 206) dX9_added_206 rfl ?_
  refine S_iconst (pc := 207) (v := (nI 1)) dX9_added_207 kI_1 ?_
  refine S_icmpne (pc := 208) (tgt := 243) dX9_added_208 (by decide) ?_ ?_
  · refine S_iload (pc := 243) dX9_added_243 rfl ?_
    exact S_iret (pc := 245) ⟨rfl, rfl⟩ rfl rfl dX9_added_245
  · refine S_aload_n (pc := 211) dX9_added_211 rfl ?_
    refine S_gP (pc := 212) fl_X9_16 rfl dX9_added_212 (fun a_56 => ?_)
    refine S_iconst (pc := 215) (v := (nI 1)) dX9_added_215 kI_1 ?_
    refine S_ldI (pc := 216) dX9_added_216 (fun x_57 => ?_)
    refine S_iconst (pc := 217) (v := (nI 2)) dX9_added_217 kI_2 ?_
    refine S_icmpne (pc := 218) (tgt := 243) dX9_added_218 (by decide) ?_ ?_
    · refine S_iload (pc := 243) dX9_added_243 rfl ?_
      exact S_iret (pc := 245) ⟨rfl, rfl⟩ rfl rfl dX9_added_245
    · refine S_aload_n (pc := 221) dX9_added_221 rfl ?_
      refine S_gP (pc := 222) fl_X9_7 rfl dX9_added_222 (fun a_58 => ?_)
      refine S_iload_n (pc := 225) dX9_added_225 rfl ?_
      refine S_iload (pc := 226) dX9_added_226 rfl ?_
      refine Y_Ti (pc := 228) (st := [.ref a_58]) (kc' := 0) (ks' := 0) (ktX9_member v1 x_55) mw_X9_member w1191 w1190 (RO.mk rfl rfl rfl rfl) rfl rfl rfl dX9_added_228 ⟨rfl, rfl⟩ (fun x_59 => ?_)
      refine S_bipush (pc := 231) (v := (nI 7)) dX9_added_231 kB_7 ?_
      refine S_iadd (pc := 233) dX9_added_233 ?_
      refine S_iconst (pc := 234) (v := (nI 1)) dX9_added_234 kI_1 ?_
      refine S_iadd (pc := 235) dX9_added_235 ?_
      refine S_aload_n (pc := 236) dX9_added_236 rfl ?_
      refine S_gP (pc := 237) fl_X9_16 rfl dX9_added_237 (fun a_60 => ?_)
      refine S_iconst (pc := 240) (v := (nI 3)) dX9_added_240 kI_3 ?_
      refine S_ldI (pc := 241) dX9_added_241 (fun x_61 => ?_)
      refine S_stI (pc := 242) dX9_added_242 ?_
      refine S_iload (pc := 243) dX9_added_243 rfl ?_
      exact S_iret (pc := 245) ⟨rfl, rfl⟩ rfl rfl dX9_added_245
theorem sX9_added_152  (r0 : Nat) (v1 : Int32) (v2 : Int32) (v3 : Int32) (v4 : Int32) (v5 : Int32) (v6 : Int32) (s0 : Nat) (s1 : Int32) : Sm mX9_added rI 0 0 152 [some (.ref r0), some (.int v1), some (.int v2), some (.int v3), some (.int v4), some (.int v5), some (.int v6), none, none, none, none] [.int s1, .ref s0] (fX9_added_152 r0 v1 v2 v3 v4 v5 v6 s0 s1) := by
  unfold fX9_added_152
  refine Y_Vi (pc := 152) (st := []) (kc' := 0) (ks' := 0) (ktX9_refused s0 s1) mw_X9_refused mv_X9_refused w1415 (RO.mk rfl rfl rfl rfl) rfl rfl rfl dX9_added_152 ⟨rfl, rfl⟩ (fun x_62 => ?_)
  refine S_ifeq (pc := 155) (tgt := 160) dX9_added_155 (by decide) ?_ ?_
  · refine S_aload_n (pc := 160) dX9_added_160 rfl ?_
    refine Y_Vv (pc := 161) (st := []) (kc' := 0) (ks' := 0) (ktX9_saves r0) mw_X9_saves mv_X9_saves w1431 (RO.mk rfl rfl rfl rfl) rfl rfl rfl dX9_added_161 ⟨rfl, rfl⟩ ?_
    refine S_aload_n (pc := 164) dX9_added_164 rfl ?_
    refine S_iload_n (pc := 165) dX9_added_165 rfl ?_
    refine S_iload_n (pc := 166) dX9_added_166 rfl ?_
    refine S_iload_n (pc := 167) dX9_added_167 rfl ?_
    refine S_iload (pc := 168) dX9_added_168 rfl ?_
    refine S_iload (pc := 170) dX9_added_170 rfl ?_
    refine S_iload (pc := 172) dX9_added_172 rfl ?_
    refine S_aload_n (pc := 174) dX9_added_174 rfl ?_
    refine S_gP (pc := 175) fl_X9_16 rfl dX9_added_175 (fun a_63 => ?_)
    refine S_iconst (pc := 178) (v := (nI 0)) dX9_added_178 kI_0 ?_
    refine S_ldI (pc := 179) dX9_added_179 (fun x_64 => ?_)
    refine S_iload_n (pc := 180) dX9_added_180 rfl ?_
    refine S_iconst (pc := 181) (v := (nI 1)) dX9_added_181 kI_1 ?_
    refine S_icmpne (pc := 182) (tgt := 194) dX9_added_182 (by decide) ?_ ?_
    · refine S_iconst (pc := 194) (v := (nI 0)) dX9_added_194 kI_0 ?_
      exact (S_lv (lv0 := [some (.ref r0), some (.int v1), some (.int v2), none, none, none, none, none, none, none, none]) (And.intro rfl (And.intro rfl (And.intro rfl trivial))) (sX9_added_195 r0 v1 v2 r0 v1 v2 v3 v4 v5 v6 x_64 (nI 0)))
    · refine S_aload_n (pc := 185) dX9_added_185 rfl ?_
      refine S_gP (pc := 186) fl_X9_16 rfl dX9_added_186 (fun a_65 => ?_)
      refine S_iconst (pc := 189) (v := (nI 1)) dX9_added_189 kI_1 ?_
      refine S_ldI (pc := 190) dX9_added_190 (fun x_66 => ?_)
      refine S_goto (pc := 191) (tgt := 195) dX9_added_191 (by decide) ?_
      exact (S_lv (lv0 := [some (.ref r0), some (.int v1), some (.int v2), none, none, none, none, none, none, none, none]) (And.intro rfl (And.intro rfl (And.intro rfl trivial))) (sX9_added_195 r0 v1 v2 r0 v1 v2 v3 v4 v5 v6 x_64 x_66))
  · refine S_iconst (pc := 158) (v := (nI 0)) dX9_added_158 kI_0 ?_
    exact S_iret (pc := 159) ⟨rfl, rfl⟩ rfl rfl dX9_added_159
theorem sX9_added_121  (r0 : Nat) (v1 : Int32) (v2 : Int32) (v3 : Int32) (v4 : Int32) (v5 : Int32) (v6 : Int32) (v7 : Int32) (v8 : Int32) (s0 : Int32) : Sm mX9_added rI 0 0 121 [some (.ref r0), some (.int v1), some (.int v2), some (.int v3), some (.int v4), some (.int v5), some (.int v6), some (.int v7), some (.int v8), none, none] [.int s0] (fX9_added_121 r0 v1 v2 v3 v4 v5 v6 v7 v8 s0) := by
  unfold fX9_added_121
  refine Z_istore (pc := 121) (lv' := [some (.ref r0), some (.int v1), some (.int v2), some (.int v3), some (.int v4), some (.int v5), some (.int v6), some (.int v7), some (.int v8), some (.int s0), none]) dX9_added_121 rfl rfl rfl ?_
  refine S_aload_n (pc := 123) dX9_added_123 rfl ?_
  refine S_iload (pc := 124) dX9_added_124 rfl ?_
  refine S_ifne (pc := 126) (tgt := 133) dX9_added_126 (by decide) ?_ ?_
  · refine S_iload (pc := 133) dX9_added_133 rfl ?_
    refine S_ifne (pc := 135) (tgt := 142) dX9_added_135 (by decide) ?_ ?_
    · refine S_iload (pc := 142) dX9_added_142 rfl ?_
      refine S_ifne (pc := 144) (tgt := 151) dX9_added_144 (by decide) ?_ ?_
      · refine S_iconst (pc := 151) (v := (nI 0)) dX9_added_151 kI_0 ?_
        exact (S_lv (lv0 := [some (.ref r0), some (.int v1), some (.int v2), some (.int v3), some (.int v4), some (.int v5), some (.int v6), none, none, none, none]) (And.intro rfl (And.intro rfl (And.intro rfl (And.intro rfl (And.intro rfl (And.intro rfl (And.intro rfl trivial))))))) (sX9_added_152 r0 v1 v2 v3 v4 v5 v6 r0 (nI 0)))
      · refine S_iconst (pc := 147) (v := (nI 3)) dX9_added_147 kI_3 ?_
        refine S_goto (pc := 148) (tgt := 152) dX9_added_148 (by decide) ?_
        exact (S_lv (lv0 := [some (.ref r0), some (.int v1), some (.int v2), some (.int v3), some (.int v4), some (.int v5), some (.int v6), none, none, none, none]) (And.intro rfl (And.intro rfl (And.intro rfl (And.intro rfl (And.intro rfl (And.intro rfl (And.intro rfl trivial))))))) (sX9_added_152 r0 v1 v2 v3 v4 v5 v6 r0 (nI 3)))
    · refine S_iconst (pc := 138) (v := (nI 2)) dX9_added_138 kI_2 ?_
      refine S_goto (pc := 139) (tgt := 152) dX9_added_139 (by decide) ?_
      exact (S_lv (lv0 := [some (.ref r0), some (.int v1), some (.int v2), some (.int v3), some (.int v4), some (.int v5), some (.int v6), none, none, none, none]) (And.intro rfl (And.intro rfl (And.intro rfl (And.intro rfl (And.intro rfl (And.intro rfl (And.intro rfl trivial))))))) (sX9_added_152 r0 v1 v2 v3 v4 v5 v6 r0 (nI 2)))
  · refine S_iconst (pc := 129) (v := (nI 1)) dX9_added_129 kI_1 ?_
    refine S_goto (pc := 130) (tgt := 152) dX9_added_130 (by decide) ?_
    exact (S_lv (lv0 := [some (.ref r0), some (.int v1), some (.int v2), some (.int v3), some (.int v4), some (.int v5), some (.int v6), none, none, none, none]) (And.intro rfl (And.intro rfl (And.intro rfl (And.intro rfl (And.intro rfl (And.intro rfl (And.intro rfl trivial))))))) (sX9_added_152 r0 v1 v2 v3 v4 v5 v6 r0 (nI 1)))
theorem sX9_added_120  (r0 : Nat) (v1 : Int32) (v2 : Int32) (v3 : Int32) (v4 : Int32) (v5 : Int32) (v6 : Int32) (v7 : Int32) (v8 : Int32) : Sm mX9_added rI 0 0 120 [some (.ref r0), some (.int v1), some (.int v2), some (.int v3), some (.int v4), some (.int v5), some (.int v6), some (.int v7), some (.int v8), none, none] [] (fX9_added_120 r0 v1 v2 v3 v4 v5 v6 v7 v8) := by
  unfold fX9_added_120
  refine S_iconst (pc := 120) (v := (nI 0)) dX9_added_120 kI_0 ?_
  exact (sX9_added_121 r0 v1 v2 v3 v4 v5 v6 v7 v8 (nI 0))
theorem sX9_added_63  (r0 : Nat) (v1 : Int32) (v2 : Int32) (v3 : Int32) (v4 : Int32) (v5 : Int32) (v6 : Int32) (v7 : Int32) (s0 : Int32) : Sm mX9_added rI 0 0 63 [some (.ref r0), some (.int v1), some (.int v2), some (.int v3), some (.int v4), some (.int v5), some (.int v6), some (.int v7), none, none, none] [.int s0] (fX9_added_63 r0 v1 v2 v3 v4 v5 v6 v7 s0) := by
  unfold fX9_added_63
  refine Z_istore (pc := 63) (lv' := [some (.ref r0), some (.int v1), some (.int v2), some (.int v3), some (.int v4), some (.int v5), some (.int v6), some (.int v7), some (.int s0), none, none]) dX9_added_63 rfl rfl rfl ?_
  refine S_iload (pc := 65) dX9_added_65 rfl ?_
  refine S_ifeq (pc := 67) (tgt := 120) dX9_added_67 (by decide) ?_ ?_
  · exact (sX9_added_120 r0 v1 v2 v3 v4 v5 v6 v7 s0)
  · refine S_iload_n (pc := 70) dX9_added_70 rfl ?_
    refine S_ifeq (pc := 71) (tgt := 120) dX9_added_71 (by decide) ?_ ?_
    · exact (sX9_added_120 r0 v1 v2 v3 v4 v5 v6 v7 s0)
    · refine S_aload_n (pc := 74) dX9_added_74 rfl ?_
      refine S_iload_n (pc := 75) dX9_added_75 rfl ?_
      refine Y_Vi (pc := 76) (st := []) (kc' := 0) (ks' := 0) (ktX9_memberMany r0 v1) mw_X9_memberMany mv_X9_memberMany w1186 (RO.mk rfl rfl rfl rfl) rfl rfl rfl dX9_added_76 ⟨rfl, rfl⟩ (fun x_67 => ?_)
      refine S_bipush (pc := 79) (v := (nI 40)) dX9_added_79 kB_40 ?_
      refine S_icmpge (pc := 81) (tgt := 120) dX9_added_81 (by decide) ?_ ?_
      · exact (sX9_added_120 r0 v1 v2 v3 v4 v5 v6 v7 s0)
      · refine S_aload_n (pc := 84) dX9_added_84 rfl ?_
        refine S_iload_n (pc := 85) dX9_added_85 rfl ?_
        refine S_iload_n (pc := 86) dX9_added_86 rfl ?_
        refine S_iload_n (pc := 87) dX9_added_87 rfl ?_
        refine S_iload (pc := 88) dX9_added_88 rfl ?_
        refine S_aload_n (pc := 90) dX9_added_90 rfl ?_
        refine S_gP (pc := 91) fl_X9_16 rfl dX9_added_91 (fun a_68 => ?_)
        refine S_iconst (pc := 94) (v := (nI 1)) dX9_added_94 kI_1 ?_
        refine S_ldI (pc := 95) dX9_added_95 (fun x_69 => ?_)
        refine S_aload_n (pc := 96) dX9_added_96 rfl ?_
        refine S_gP (pc := 97) fl_X9_16 rfl dX9_added_97 (fun a_70 => ?_)
        refine S_iconst (pc := 100) (v := (nI 2)) dX9_added_100 kI_2 ?_
        refine S_ldI (pc := 101) dX9_added_101 (fun x_71 => ?_)
        refine S_aload_n (pc := 102) dX9_added_102 rfl ?_
        refine S_gP (pc := 103) fl_X9_16 rfl dX9_added_103 (fun a_72 => ?_)
        refine S_iconst (pc := 106) (v := (nI 3)) dX9_added_106 kI_3 ?_
        refine S_ldI (pc := 107) dX9_added_107 (fun x_73 => ?_)
        refine Y_Vi (pc := 108) (st := []) (kc' := 0) (ks' := 0) (ktX9_found r0 v1 v3 v2 v4 x_69 x_71 x_73) mw_X9_found mv_X9_found w1239 (RO.mk rfl rfl rfl rfl) rfl rfl rfl dX9_added_108 ⟨rfl, rfl⟩ (fun x_74 => ?_)
        refine S_bipush (pc := 111) (v := (-2 : Int32)) dX9_added_111 kB_m2 ?_
        refine S_icmpne (pc := 113) (tgt := 120) dX9_added_113 (by decide) ?_ ?_
        · exact (sX9_added_120 r0 v1 v2 v3 v4 v5 v6 v7 s0)
        · refine S_iconst (pc := 116) (v := (nI 1)) dX9_added_116 kI_1 ?_
          refine S_goto (pc := 117) (tgt := 121) dX9_added_117 (by decide) ?_
          exact (sX9_added_121 r0 v1 v2 v3 v4 v5 v6 v7 s0 (nI 1))
theorem sX9_added_62  (r0 : Nat) (v1 : Int32) (v2 : Int32) (v3 : Int32) (v4 : Int32) (v5 : Int32) (v6 : Int32) (v7 : Int32) : Sm mX9_added rI 0 0 62 [some (.ref r0), some (.int v1), some (.int v2), some (.int v3), some (.int v4), some (.int v5), some (.int v6), some (.int v7), none, none, none] [] (fX9_added_62 r0 v1 v2 v3 v4 v5 v6 v7) := by
  unfold fX9_added_62
  refine S_iconst (pc := 62) (v := (nI 0)) dX9_added_62 kI_0 ?_
  exact (sX9_added_63 r0 v1 v2 v3 v4 v5 v6 v7 (nI 0))
theorem sX9_added  (r0 : Nat) (v1 : Int32) (v2 : Int32) (v3 : Int32) (v4 : Int32) (v5 : Int32) (v6 : Int32) : Sm mX9_added rI 0 0 0 [some (.ref r0), some (.int v1), some (.int v2), some (.int v3), some (.int v4), some (.int v5), some (.int v6), none, none, none, none] [] (fX9_added r0 v1 v2 v3 v4 v5 v6) := by
  unfold fX9_added
  refine S_aload_n (pc := 0) dX9_added_0 rfl ?_
  refine S_iload_n (pc := 1) dX9_added_1 rfl ?_
  refine S_iload_n (pc := 2) dX9_added_2 rfl ?_
  refine Y_Vi (pc := 3) (st := []) (kc' := 0) (ks' := 0) (ktX9_isClass r0 v1 v3) mw_X9_isClass mv_X9_isClass w1209 (RO.mk rfl rfl rfl rfl) rfl rfl rfl dX9_added_3 ⟨rfl, rfl⟩ (fun x_75 => ?_)
  refine Z_istore (pc := 6) (lv' := [some (.ref r0), some (.int v1), some (.int v2), some (.int v3), some (.int v4), some (.int v5), some (.int v6), some (.int x_75), none, none, none]) dX9_added_6 rfl rfl rfl ?_
  refine S_iload (pc := 8) dX9_added_8 rfl ?_
  refine S_ifeq (pc := 10) (tgt := 62) dX9_added_10 (by decide) ?_ ?_
  · exact (sX9_added_62 r0 v1 v2 v3 v4 v5 v6 x_75)
  · refine S_iload (pc := 13) dX9_added_13 rfl ?_
    refine S_iconst (pc := 15) (v := (nI 0)) dX9_added_15 kI_0 ?_
    refine S_bipush (pc := 16) (v := (nI 7)) dX9_added_16 kB_7 ?_
    refine Y_Ti (pc := 18) (st := []) (kc' := 0) (ks' := 0) (ktX9_within v4 (nI 0) (nI 7)) mw_X9_within w1217 w1216 (RO.mk rfl rfl rfl rfl) rfl rfl rfl dX9_added_18 ⟨rfl, rfl⟩ (fun x_76 => ?_)
    refine S_ifeq (pc := 21) (tgt := 62) dX9_added_21 (by decide) ?_ ?_
    · exact (sX9_added_62 r0 v1 v2 v3 v4 v5 v6 x_75)
    · refine S_iload_n (pc := 24) dX9_added_24 rfl ?_
      refine S_iconst (pc := 25) (v := (nI 1)) dX9_added_25 kI_1 ?_
      refine S_icmpne (pc := 26) (tgt := 45) dX9_added_26 (by decide) ?_ ?_
      · refine S_aload_n (pc := 45) dX9_added_45 rfl ?_
        refine S_iload_n (pc := 46) dX9_added_46 rfl ?_
        refine S_iload_n (pc := 47) dX9_added_47 rfl ?_
        refine S_iload (pc := 48) dX9_added_48 rfl ?_
        refine S_iload (pc := 50) dX9_added_50 rfl ?_
        refine Y_Vi (pc := 52) (st := []) (kc' := 0) (ks' := 0) (ktX9_mayBeField r0 v1 v3 v5 v6) mw_X9_mayBeField mv_X9_mayBeField w1502 (RO.mk rfl rfl rfl rfl) rfl rfl rfl dX9_added_52 ⟨rfl, rfl⟩ (fun x_77 => ?_)
        refine S_ifeq (pc := 55) (tgt := 62) dX9_added_55 (by decide) ?_ ?_
        · exact (sX9_added_62 r0 v1 v2 v3 v4 v5 v6 x_75)
        · refine S_iconst (pc := 58) (v := (nI 1)) dX9_added_58 kI_1 ?_
          refine S_goto (pc := 59) (tgt := 63) dX9_added_59 (by decide) ?_
          exact (sX9_added_63 r0 v1 v2 v3 v4 v5 v6 x_75 (nI 1))
      · refine S_aload_n (pc := 29) dX9_added_29 rfl ?_
        refine S_iload_n (pc := 30) dX9_added_30 rfl ?_
        refine S_iload_n (pc := 31) dX9_added_31 rfl ?_
        refine S_iload (pc := 32) dX9_added_32 rfl ?_
        refine S_iload (pc := 34) dX9_added_34 rfl ?_
        refine Y_Vi (pc := 36) (st := []) (kc' := 0) (ks' := 0) (ktX9_mayBeMethod r0 v1 v3 v5 v6) mw_X9_mayBeMethod mv_X9_mayBeMethod w1498 (RO.mk rfl rfl rfl rfl) rfl rfl rfl dX9_added_36 ⟨rfl, rfl⟩ (fun x_78 => ?_)
        refine S_ifeq (pc := 39) (tgt := 62) dX9_added_39 (by decide) ?_ ?_
        · exact (sX9_added_62 r0 v1 v2 v3 v4 v5 v6 x_75)
        · refine S_goto (pc := 42) (tgt := 58) dX9_added_42 (by decide) ?_
          refine S_iconst (pc := 58) (v := (nI 1)) dX9_added_58 kI_1 ?_
          refine S_goto (pc := 59) (tgt := 63) dX9_added_59 (by decide) ?_
          exact (sX9_added_63 r0 v1 v2 v3 v4 v5 v6 x_75 (nI 1))
theorem ktX9_added (r0 : Nat) (v1 : Int32) (v2 : Int32) (v3 : Int32) (v4 : Int32) (v5 : Int32) (v6 : Int32) : Ct mX9_added rI [.ref r0, .int v1, .int v2, .int v3, .int v4, .int v5, .int v6] (fX9_added r0 v1 v2 v3 v4 v5 v6) := Ct.of (z := 4) pn_X9 rfl rfl rfl (sX9_added r0 v1 v2 v3 v4 v5 v6)
def mX9_addField : MI := (yX9_addField, cX9_addField, 6, (some .int), { frames := 5, cells := 0, slots := 0, locals := 128 }, [])
theorem mw_X9_addField : MW mX9_addField 5 := ⟨w1493, w11, ⟨by decide, by decide⟩, by decide +kernel⟩
theorem mv_X9_addField : MV mX9_addField 9 := ⟨_, rfl, w1491, w1492⟩
def fX9_addField  (r0 : Nat) (v1 : Int32) (v2 : Int32) (v3 : Int32) (v4 : Int32) (v5 : Int32) : AH → Option (Int32 × AH) := fun h =>
  cv 9 r0 (fX9_added r0 v1 (nI 0) v2 v3 v4 v5) h fun x_2 h =>
  some (x_2, h)
theorem sX9_addField  (r0 : Nat) (v1 : Int32) (v2 : Int32) (v3 : Int32) (v4 : Int32) (v5 : Int32) : Sm mX9_addField rI 0 0 0 [some (.ref r0), some (.int v1), some (.int v2), some (.int v3), some (.int v4), some (.int v5)] [] (fX9_addField r0 v1 v2 v3 v4 v5) := by
  unfold fX9_addField
  refine S_aload_n (pc := 0) dX9_addField_0 rfl ?_
  refine S_iload_n (pc := 1) dX9_addField_1 rfl ?_
  refine S_iconst (pc := 2) (v := (nI 0)) dX9_addField_2 kI_0 ?_
  refine S_iload_n (pc := 3) dX9_addField_3 rfl ?_
  refine S_iload_n (pc := 4) dX9_addField_4 rfl ?_
  refine S_iload (pc := 5) dX9_addField_5 rfl ?_
  refine S_iload (pc := 7) dX9_addField_7 rfl ?_
  refine Y_Vi (pc := 9) (st := []) (kc' := 0) (ks' := 0) (ktX9_added r0 v1 (nI 0) v2 v3 v4 v5) mw_X9_added mv_X9_added w1494 (RO.mk rfl rfl rfl rfl) rfl rfl rfl dX9_addField_9 ⟨rfl, rfl⟩ (fun x_2 => ?_)
  exact S_iret (pc := 12) ⟨rfl, rfl⟩ rfl rfl dX9_addField_12
theorem ktX9_addField (r0 : Nat) (v1 : Int32) (v2 : Int32) (v3 : Int32) (v4 : Int32) (v5 : Int32) : Ct mX9_addField rI [.ref r0, .int v1, .int v2, .int v3, .int v4, .int v5] (fX9_addField r0 v1 v2 v3 v4 v5) := Ct.of (z := 0) pn_X9 rfl rfl rfl (sX9_addField r0 v1 v2 v3 v4 v5)
def mX9_addMethod : MI := (yX9_addMethod, cX9_addMethod, 6, (some .int), { frames := 5, cells := 0, slots := 0, locals := 128 }, [])
theorem mw_X9_addMethod : MW mX9_addMethod 5 := ⟨w1509, w11, ⟨by decide, by decide⟩, by decide +kernel⟩
theorem mv_X9_addMethod : MV mX9_addMethod 9 := ⟨_, rfl, w1507, w1508⟩
def fX9_addMethod  (r0 : Nat) (v1 : Int32) (v2 : Int32) (v3 : Int32) (v4 : Int32) (v5 : Int32) : AH → Option (Int32 × AH) := fun h =>
  cv 9 r0 (fX9_added r0 v1 (nI 1) v2 v3 v4 v5) h fun x_2 h =>
  some (x_2, h)
theorem sX9_addMethod  (r0 : Nat) (v1 : Int32) (v2 : Int32) (v3 : Int32) (v4 : Int32) (v5 : Int32) : Sm mX9_addMethod rI 0 0 0 [some (.ref r0), some (.int v1), some (.int v2), some (.int v3), some (.int v4), some (.int v5)] [] (fX9_addMethod r0 v1 v2 v3 v4 v5) := by
  unfold fX9_addMethod
  refine S_aload_n (pc := 0) dX9_addMethod_0 rfl ?_
  refine S_iload_n (pc := 1) dX9_addMethod_1 rfl ?_
  refine S_iconst (pc := 2) (v := (nI 1)) dX9_addMethod_2 kI_1 ?_
  refine S_iload_n (pc := 3) dX9_addMethod_3 rfl ?_
  refine S_iload_n (pc := 4) dX9_addMethod_4 rfl ?_
  refine S_iload (pc := 5) dX9_addMethod_5 rfl ?_
  refine S_iload (pc := 7) dX9_addMethod_7 rfl ?_
  refine Y_Vi (pc := 9) (st := []) (kc' := 0) (ks' := 0) (ktX9_added r0 v1 (nI 1) v2 v3 v4 v5) mw_X9_added mv_X9_added w1494 (RO.mk rfl rfl rfl rfl) rfl rfl rfl dX9_addMethod_9 ⟨rfl, rfl⟩ (fun x_2 => ?_)
  exact S_iret (pc := 12) ⟨rfl, rfl⟩ rfl rfl dX9_addMethod_12
theorem ktX9_addMethod (r0 : Nat) (v1 : Int32) (v2 : Int32) (v3 : Int32) (v4 : Int32) (v5 : Int32) : Ct mX9_addMethod rI [.ref r0, .int v1, .int v2, .int v3, .int v4, .int v5] (fX9_addMethod r0 v1 v2 v3 v4 v5) := Ct.of (z := 0) pn_X9 rfl rfl rfl (sX9_addMethod r0 v1 v2 v3 v4 v5)
def mX9_areInterfaces : MI := (yX9_areInterfaces, cX9_areInterfaces, 6, (some .boolean), { frames := 3, cells := 0, slots := 0, locals := 66 }, [])
theorem mw_X9_areInterfaces : MW mX9_areInterfaces 3 := ⟨w1430, w11, ⟨by decide, by decide⟩, by decide +kernel⟩
theorem mv_X9_areInterfaces : MV mX9_areInterfaces 9 := ⟨_, rfl, w1429, wp74⟩
def fX9_areInterfaces_65 (k20 : Nat → Int32 → Int32 → Int32 → Int32 → Int32 → AH → Option (Int32 × AH)) (r0 : Nat) (v1 : Int32) (v2 : Int32) (v3 : Int32) (v5 : Int32) (s0 : Int32) : AH → Option (Int32 × AH) := fun h =>
  k20 r0 v1 v2 v3 s0 (v5 + (nI 1)) h
def fX9_areInterfaces_64 (k20 : Nat → Int32 → Int32 → Int32 → Int32 → Int32 → AH → Option (Int32 × AH)) (r0 : Nat) (v1 : Int32) (v2 : Int32) (v3 : Int32) (v5 : Int32) : AH → Option (Int32 × AH) := fun h =>
  fX9_areInterfaces_65 k20 r0 v1 v2 v3 v5 (nI 0) h
def bX9_areInterfaces_20  (k20 : Nat → Int32 → Int32 → Int32 → Int32 → Int32 → AH → Option (Int32 × AH)) (r0 : Nat) (v1 : Int32) (v2 : Int32) (v3 : Int32) (v4 : Int32) (v5 : Int32) : AH → Option (Int32 × AH) := fun h =>
  if v2 ≤ v5 then (
    rz v4 v4 h)
  else
  if v4 = 0 then (
    rz v4 v4 h)
  else
  bd (fX9_has v3 v5 h) fun x_7 h =>
  if x_7 = 0 then (
    fX9_areInterfaces_65 k20 r0 v1 v2 v3 v5 (nI 1) h)
  else
  cv 9 r0 (fX9_isClass r0 v1 v5) h fun x_8 h =>
  if x_8 = 0 then (
    fX9_areInterfaces_64 k20 r0 v1 v2 v3 v5 h)
  else
  cv 9 r0 (fX9_isInterface r0 v1 v5) h fun x_9 h =>
  if x_9 = 0 then (
    fX9_areInterfaces_64 k20 r0 v1 v2 v3 v5 h)
  else
  fX9_areInterfaces_65 k20 r0 v1 v2 v3 v5 (nI 1) h
def lX9_areInterfaces_20  : Nat → Nat → Int32 → Int32 → Int32 → Int32 → Int32 → AH → Option (Int32 × AH)
  | 0 => fun _ _ _ _ _ _ _ => none
  | n + 1 => bX9_areInterfaces_20 (lX9_areInterfaces_20 n)
def fX9_areInterfaces_15  (r0 : Nat) (v1 : Int32) (v2 : Int32) (v3 : Int32) (s0 : Int32) : AH → Option (Int32 × AH) := fun h =>
  lX9_areInterfaces_20 fuel r0 v1 v2 v3 s0 (nI 0) h
def fX9_areInterfaces_14  (r0 : Nat) (v1 : Int32) (v2 : Int32) (v3 : Int32) : AH → Option (Int32 × AH) := fun h =>
  fX9_areInterfaces_15 r0 v1 v2 v3 (nI 0) h
def fX9_areInterfaces  (r0 : Nat) (v1 : Int32) (v2 : Int32) (v3 : Int32) : AH → Option (Int32 × AH) := fun h =>
  if v3 < 0 then (
    fX9_areInterfaces_14 r0 v1 v2 v3 h)
  else
  if (v3 >>> (v2 &&& 31)) = 0 then (
    fX9_areInterfaces_15 r0 v1 v2 v3 (nI 1) h)
  else
  fX9_areInterfaces_14 r0 v1 v2 v3 h
theorem sX9_areInterfaces_65 {k20 : Nat → Int32 → Int32 → Int32 → Int32 → Int32 → AH → Option (Int32 × AH)} (h20 : ∀ (r0 : Nat) (v1 : Int32) (v2 : Int32) (v3 : Int32) (v4 : Int32) (v5 : Int32), Sm mX9_areInterfaces rI 0 0 20 [some (.ref r0), some (.int v1), some (.int v2), some (.int v3), some (.int v4), some (.int v5)] [] (k20 r0 v1 v2 v3 v4 v5)) (r0 : Nat) (v1 : Int32) (v2 : Int32) (v3 : Int32) (v5 : Int32) (s0 : Int32) : Sm mX9_areInterfaces rI 0 0 65 [some (.ref r0), some (.int v1), some (.int v2), some (.int v3), none, some (.int v5)] [.int s0] (fX9_areInterfaces_65 k20 r0 v1 v2 v3 v5 s0) := by
  unfold fX9_areInterfaces_65
  refine Z_istore (pc := 65) (lv' := [some (.ref r0), some (.int v1), some (.int v2), some (.int v3), some (.int s0), some (.int v5)]) dX9_areInterfaces_65 rfl rfl rfl ?_
  refine Z_iinc (pc := 67) (v := (nI 1)) (lv' := [some (.ref r0), some (.int v1), some (.int v2), some (.int v3), some (.int s0), some (.int (v5 + (nI 1)))]) dX9_areInterfaces_67 rfl kI_1 rfl rfl rfl ?_
  refine S_goto (pc := 70) (tgt := 20) dX9_areInterfaces_70 (by decide) ?_
  exact (h20 r0 v1 v2 v3 s0 (v5 + (nI 1)))
theorem sX9_areInterfaces_64 {k20 : Nat → Int32 → Int32 → Int32 → Int32 → Int32 → AH → Option (Int32 × AH)} (h20 : ∀ (r0 : Nat) (v1 : Int32) (v2 : Int32) (v3 : Int32) (v4 : Int32) (v5 : Int32), Sm mX9_areInterfaces rI 0 0 20 [some (.ref r0), some (.int v1), some (.int v2), some (.int v3), some (.int v4), some (.int v5)] [] (k20 r0 v1 v2 v3 v4 v5)) (r0 : Nat) (v1 : Int32) (v2 : Int32) (v3 : Int32) (v5 : Int32) : Sm mX9_areInterfaces rI 0 0 64 [some (.ref r0), some (.int v1), some (.int v2), some (.int v3), none, some (.int v5)] [] (fX9_areInterfaces_64 k20 r0 v1 v2 v3 v5) := by
  unfold fX9_areInterfaces_64
  refine S_iconst (pc := 64) (v := (nI 0)) dX9_areInterfaces_64 kI_0 ?_
  exact (sX9_areInterfaces_65 h20 r0 v1 v2 v3 v5 (nI 0))
theorem sbX9_areInterfaces_20  {k20 : Nat → Int32 → Int32 → Int32 → Int32 → Int32 → AH → Option (Int32 × AH)} (h20 : ∀ (r0 : Nat) (v1 : Int32) (v2 : Int32) (v3 : Int32) (v4 : Int32) (v5 : Int32), Sm mX9_areInterfaces rI 0 0 20 [some (.ref r0), some (.int v1), some (.int v2), some (.int v3), some (.int v4), some (.int v5)] [] (k20 r0 v1 v2 v3 v4 v5)) (r0 : Nat) (v1 : Int32) (v2 : Int32) (v3 : Int32) (v4 : Int32) (v5 : Int32) : Sm mX9_areInterfaces rI 0 0 20 [some (.ref r0), some (.int v1), some (.int v2), some (.int v3), some (.int v4), some (.int v5)] [] (bX9_areInterfaces_20 k20 r0 v1 v2 v3 v4 v5) := by
  unfold bX9_areInterfaces_20
  refine S_iload (pc := 20) dX9_areInterfaces_20 rfl ?_
  refine S_iload_n (pc := 22) dX9_areInterfaces_22 rfl ?_
  refine S_icmpge (pc := 23) (tgt := 73) dX9_areInterfaces_23 (by decide) ?_ ?_
  · refine S_iload (pc := 73) dX9_areInterfaces_73 rfl ?_
    exact S_zret (pc := 75) ⟨rfl, rfl⟩ rfl rfl dX9_areInterfaces_75
  · refine S_iload (pc := 26) dX9_areInterfaces_26 rfl ?_
    refine S_ifeq (pc := 28) (tgt := 73) dX9_areInterfaces_28 (by decide) ?_ ?_
    · refine S_iload (pc := 73) dX9_areInterfaces_73 rfl ?_
      exact S_zret (pc := 75) ⟨rfl, rfl⟩ rfl rfl dX9_areInterfaces_75
    · refine S_iload_n (pc := 31) dX9_areInterfaces_31 rfl ?_
      refine S_iload (pc := 32) dX9_areInterfaces_32 rfl ?_
      refine Y_Ti (pc := 34) (st := []) (kc' := 0) (ks' := 0) (ktX9_has v3 v5) mw_X9_has w1252 w1251 (RO.mk rfl rfl rfl rfl) rfl rfl rfl dX9_areInterfaces_34 ⟨rfl, rfl⟩ (fun x_7 => ?_)
      refine S_ifeq (pc := 37) (tgt := 60) dX9_areInterfaces_37 (by decide) ?_ ?_
      · refine S_iconst (pc := 60) (v := (nI 1)) dX9_areInterfaces_60 kI_1 ?_
        refine S_goto (pc := 61) (tgt := 65) dX9_areInterfaces_61 (by decide) ?_
        exact (S_lv (lv0 := [some (.ref r0), some (.int v1), some (.int v2), some (.int v3), none, some (.int v5)]) (And.intro rfl (And.intro rfl (And.intro rfl (And.intro rfl (And.intro rfl trivial))))) (sX9_areInterfaces_65 h20 r0 v1 v2 v3 v5 (nI 1)))
      · refine S_aload_n (pc := 40) dX9_areInterfaces_40 rfl ?_
        refine S_iload_n (pc := 41) dX9_areInterfaces_41 rfl ?_
        refine S_iload (pc := 42) dX9_areInterfaces_42 rfl ?_
        refine Y_Vi (pc := 44) (st := []) (kc' := 0) (ks' := 0) (ktX9_isClass r0 v1 v5) mw_X9_isClass mv_X9_isClass w1209 (RO.mk rfl rfl rfl rfl) rfl rfl rfl dX9_areInterfaces_44 ⟨rfl, rfl⟩ (fun x_8 => ?_)
        refine S_ifeq (pc := 47) (tgt := 64) dX9_areInterfaces_47 (by decide) ?_ ?_
        · exact (S_lv (lv0 := [some (.ref r0), some (.int v1), some (.int v2), some (.int v3), none, some (.int v5)]) (And.intro rfl (And.intro rfl (And.intro rfl (And.intro rfl (And.intro rfl trivial))))) (sX9_areInterfaces_64 h20 r0 v1 v2 v3 v5))
        · refine S_aload_n (pc := 50) dX9_areInterfaces_50 rfl ?_
          refine S_iload_n (pc := 51) dX9_areInterfaces_51 rfl ?_
          refine S_iload (pc := 52) dX9_areInterfaces_52 rfl ?_
          refine Y_Vi (pc := 54) (st := []) (kc' := 0) (ks' := 0) (ktX9_isInterface r0 v1 v5) mw_X9_isInterface mv_X9_isInterface w1282 (RO.mk rfl rfl rfl rfl) rfl rfl rfl dX9_areInterfaces_54 ⟨rfl, rfl⟩ (fun x_9 => ?_)
          refine S_ifeq (pc := 57) (tgt := 64) dX9_areInterfaces_57 (by decide) ?_ ?_
          · exact (S_lv (lv0 := [some (.ref r0), some (.int v1), some (.int v2), some (.int v3), none, some (.int v5)]) (And.intro rfl (And.intro rfl (And.intro rfl (And.intro rfl (And.intro rfl trivial))))) (sX9_areInterfaces_64 h20 r0 v1 v2 v3 v5))
          · refine S_iconst (pc := 60) (v := (nI 1)) dX9_areInterfaces_60 kI_1 ?_
            refine S_goto (pc := 61) (tgt := 65) dX9_areInterfaces_61 (by decide) ?_
            exact (S_lv (lv0 := [some (.ref r0), some (.int v1), some (.int v2), some (.int v3), none, some (.int v5)]) (And.intro rfl (And.intro rfl (And.intro rfl (And.intro rfl (And.intro rfl trivial))))) (sX9_areInterfaces_65 h20 r0 v1 v2 v3 v5 (nI 1)))
theorem sX9_areInterfaces_20  : ∀ (n : Nat) (r0 : Nat) (v1 : Int32) (v2 : Int32) (v3 : Int32) (v4 : Int32) (v5 : Int32), Sm mX9_areInterfaces rI 0 0 20 [some (.ref r0), some (.int v1), some (.int v2), some (.int v3), some (.int v4), some (.int v5)] [] (lX9_areInterfaces_20 n r0 v1 v2 v3 v4 v5)
  | 0, _, _, _, _, _, _ => S_none
  | n + 1, r0, v1, v2, v3, v4, v5 => sbX9_areInterfaces_20 (sX9_areInterfaces_20 n) r0 v1 v2 v3 v4 v5
theorem sX9_areInterfaces_15  (r0 : Nat) (v1 : Int32) (v2 : Int32) (v3 : Int32) (s0 : Int32) : Sm mX9_areInterfaces rI 0 0 15 [some (.ref r0), some (.int v1), some (.int v2), some (.int v3), none, none] [.int s0] (fX9_areInterfaces_15 r0 v1 v2 v3 s0) := by
  unfold fX9_areInterfaces_15
  refine Z_istore (pc := 15) (lv' := [some (.ref r0), some (.int v1), some (.int v2), some (.int v3), some (.int s0), none]) dX9_areInterfaces_15 rfl rfl rfl ?_
  refine S_iconst (pc := 17) (v := (nI 0)) dX9_areInterfaces_17 kI_0 ?_
  refine Z_istore (pc := 18) (lv' := [some (.ref r0), some (.int v1), some (.int v2), some (.int v3), some (.int s0), some (.int (nI 0))]) dX9_areInterfaces_18 rfl rfl rfl ?_
  exact (sX9_areInterfaces_20 fuel r0 v1 v2 v3 s0 (nI 0))
theorem sX9_areInterfaces_14  (r0 : Nat) (v1 : Int32) (v2 : Int32) (v3 : Int32) : Sm mX9_areInterfaces rI 0 0 14 [some (.ref r0), some (.int v1), some (.int v2), some (.int v3), none, none] [] (fX9_areInterfaces_14 r0 v1 v2 v3) := by
  unfold fX9_areInterfaces_14
  refine S_iconst (pc := 14) (v := (nI 0)) dX9_areInterfaces_14 kI_0 ?_
  exact (sX9_areInterfaces_15 r0 v1 v2 v3 (nI 0))
theorem sX9_areInterfaces  (r0 : Nat) (v1 : Int32) (v2 : Int32) (v3 : Int32) : Sm mX9_areInterfaces rI 0 0 0 [some (.ref r0), some (.int v1), some (.int v2), some (.int v3), none, none] [] (fX9_areInterfaces r0 v1 v2 v3) := by
  unfold fX9_areInterfaces
  refine S_iload_n (pc := 0) dX9_areInterfaces_0 rfl ?_
  refine S_iflt (pc := 1) (tgt := 14) dX9_areInterfaces_1 (by decide) ?_ ?_
  · exact (sX9_areInterfaces_14 r0 v1 v2 v3)
  · refine S_iload_n (pc := 4) dX9_areInterfaces_4 rfl ?_
    refine S_iload_n (pc := 5) dX9_areInterfaces_5 rfl ?_
    refine S_ishr (pc := 6) dX9_areInterfaces_6 ?_
    refine S_ifne (pc := 7) (tgt := 14) dX9_areInterfaces_7 (by decide) ?_ ?_
    · exact (sX9_areInterfaces_14 r0 v1 v2 v3)
    · refine S_iconst (pc := 10) (v := (nI 1)) dX9_areInterfaces_10 kI_1 ?_
      refine S_goto (pc := 11) (tgt := 15) dX9_areInterfaces_11 (by decide) ?_
      exact (sX9_areInterfaces_15 r0 v1 v2 v3 (nI 1))
theorem ktX9_areInterfaces (r0 : Nat) (v1 : Int32) (v2 : Int32) (v3 : Int32) : Ct mX9_areInterfaces rI [.ref r0, .int v1, .int v2, .int v3] (fX9_areInterfaces r0 v1 v2 v3) := Ct.of (z := 2) pn_X9 rfl rfl rfl (sX9_areInterfaces r0 v1 v2 v3)
def mX9_mix : MI := (yX9_mix, cX9_mix, 3, none, { frames := 0, cells := 0, slots := 0, locals := 0 }, [])
theorem mw_X9_mix : MW mX9_mix 1 := ⟨w1674, w11, ⟨by decide, by decide⟩, by decide +kernel⟩
theorem mv_X9_mix : MV mX9_mix 9 := ⟨_, rfl, w1673, wp104⟩
def fX9_mix  (r0 : Nat) (u1 : Int64) : AH → Option (Unit × AH) := fun h =>
  (gJ 9 r0 19 h).bind fun y_2 =>
  (pJ 9 r0 19 (((31 : Int64) * y_2) + u1) h).bind fun h =>
  some ((), h)
theorem sX9_mix  (r0 : Nat) (u1 : Int64) : Sm mX9_mix rV 0 0 0 [some (.ref r0), some (.long u1), none] [] (fX9_mix r0 u1) := by
  unfold fX9_mix
  refine S_aload_n (pc := 0) dX9_mix_0 rfl ?_
  refine S_ldc2 (pc := 1) (v := (31 : Int64)) w1675 dX9_mix_1 ?_
  refine S_aload_n (pc := 4) dX9_mix_4 rfl ?_
  refine S_gJ (pc := 5) fl_X9_325 rfl dX9_mix_5 (fun y_2 => ?_)
  refine S_lmul (pc := 8) dX9_mix_8 ?_
  refine S_lload_n (pc := 9) dX9_mix_9 rfl ?_
  refine S_ladd (pc := 10) dX9_mix_10 ?_
  refine S_pJ (pc := 11) fl_X9_325 rfl rfl dX9_mix_11 ?_
  exact S_vret (pc := 14) ⟨rfl, rfl⟩ rfl rfl dX9_mix_14
theorem ktX9_mix (r0 : Nat) (u1 : Int64) : Ct mX9_mix rV [.ref r0, .long u1] (fX9_mix r0 u1) := Ct.of (z := 0) pn_X9 rfl rfl rfl (sX9_mix r0 u1)
def mX9_placeOf : MI := (yX9_placeOf, cX9_placeOf, 1, (some .int), { frames := 0, cells := 0, slots := 0, locals := 0 }, [])
theorem mw_X9_placeOf : MW mX9_placeOf 1 := ⟨w1469, w11, ⟨by decide, by decide⟩, by decide +kernel⟩
def fX9_placeOf  (v0 : Int32) : AH → Option (Int32 × AH) := fun h =>
  if v0 = (nI 0) then (
    some ((nI 5), h))
  else
  if v0 = (nI 1) then (
    some ((nI 6), h))
  else
  if v0 = (nI 2) then (
    some ((nI 7), h))
  else
  if v0 = (nI 3) then (
    some ((nI 4), h))
  else
  if v0 = (nI 4) then (
    some ((nI 2), h))
  else
  some ((nI 3), h)
theorem sX9_placeOf  (v0 : Int32) : Sm mX9_placeOf rI 0 0 0 [some (.int v0)] [] (fX9_placeOf v0) := by
  unfold fX9_placeOf
  refine S_iload_n (pc := 0) dX9_placeOf_0 rfl ?_
  refine S_case (x := v0) (v := (nI 0)) (fun n0 => ?_) (fun n0 => ?_)
  · refine S_tsI (pc := 1) (tgt := 36) n0 dX9_placeOf_1 (by decide) rfl (by decide) ?_
    refine S_iconst (pc := 36) (v := (nI 5)) dX9_placeOf_36 kI_5 ?_
    exact S_iret (pc := 37) ⟨rfl, rfl⟩ rfl rfl dX9_placeOf_37
  refine S_case (x := v0) (v := (nI 1)) (fun n1 => ?_) (fun n1 => ?_)
  · refine S_tsI (pc := 1) (tgt := 38) n1 dX9_placeOf_1 (by decide) rfl (by decide) ?_
    refine S_bipush (pc := 38) (v := (nI 6)) dX9_placeOf_38 kB_6 ?_
    exact S_iret (pc := 40) ⟨rfl, rfl⟩ rfl rfl dX9_placeOf_40
  refine S_case (x := v0) (v := (nI 2)) (fun n2 => ?_) (fun n2 => ?_)
  · refine S_tsI (pc := 1) (tgt := 41) n2 dX9_placeOf_1 (by decide) rfl (by decide) ?_
    refine S_bipush (pc := 41) (v := (nI 7)) dX9_placeOf_41 kB_7 ?_
    exact S_iret (pc := 43) ⟨rfl, rfl⟩ rfl rfl dX9_placeOf_43
  refine S_case (x := v0) (v := (nI 3)) (fun n3 => ?_) (fun n3 => ?_)
  · refine S_tsI (pc := 1) (tgt := 44) n3 dX9_placeOf_1 (by decide) rfl (by decide) ?_
    refine S_iconst (pc := 44) (v := (nI 4)) dX9_placeOf_44 kI_4 ?_
    exact S_iret (pc := 45) ⟨rfl, rfl⟩ rfl rfl dX9_placeOf_45
  refine S_case (x := v0) (v := (nI 4)) (fun n4 => ?_) (fun n4 => ?_)
  · refine S_tsI (pc := 1) (tgt := 46) n4 dX9_placeOf_1 (by decide) rfl (by decide) ?_
    refine S_iconst (pc := 46) (v := (nI 2)) dX9_placeOf_46 kI_2 ?_
    exact S_iret (pc := 47) ⟨rfl, rfl⟩ rfl rfl dX9_placeOf_47
  refine S_tsD (pc := 1) (tgt := 48) (by have n0 := lv_neT (a := 0) n0 rfl; have n1 := lv_neT (a := 1) n1 rfl; have n2 := lv_neT (a := 2) n2 rfl; have n3 := lv_neT (a := 3) n3 rfl; have n4 := lv_neT (a := 4) n4 rfl; omega) dX9_placeOf_1 (by decide) ?_
  refine S_iconst (pc := 48) (v := (nI 3)) dX9_placeOf_48 kI_3 ?_
  exact S_iret (pc := 49) ⟨rfl, rfl⟩ rfl rfl dX9_placeOf_49
theorem ktX9_placeOf (v0 : Int32) : Ct mX9_placeOf rI [.int v0] (fX9_placeOf v0) := Ct.of (z := 0) pn_X9 rfl rfl rfl (sX9_placeOf v0)
def mX9_infoOf : MI := (yX9_infoOf, cX9_infoOf, 6, (some .int), { frames := 8, cells := 0, slots := 0, locals := 202 }, [])
theorem mw_X9_infoOf : MW mX9_infoOf 3 := ⟨w1481, w11, ⟨by decide, by decide⟩, by decide +kernel⟩
theorem mv_X9_infoOf : MV mX9_infoOf 9 := ⟨_, rfl, w1480, wp82⟩
def fX9_infoOf_92 (k63 : Nat → Int32 → Int32 → Int32 → Int32 → AH → Option (Int32 × AH)) (r0 : Nat) (v1 : Int32) (v2 : Int32) (v5 : Int32) (s0 : Int32) (s1 : Int32) : AH → Option (Int32 × AH) := fun h =>
  k63 r0 v1 v2 (s0 + s1) (v5 + (nI 1)) h
def bX9_infoOf_63  (k63 : Nat → Int32 → Int32 → Int32 → Int32 → AH → Option (Int32 × AH)) (r0 : Nat) (v1 : Int32) (v2 : Int32) (v4 : Int32) (v5 : Int32) : AH → Option (Int32 × AH) := fun h =>
  cv 9 r0 (fX9_memberMany r0 v1) h fun x_19 h =>
  if x_19 ≤ v5 then (
    some (v4, h))
  else
  cv 9 r0 (fX9_its r0 v1 v5 (nI 1)) h fun x_20 h =>
  if x_20 = v2 then (
    fX9_infoOf_92 k63 r0 v1 v2 v5 v4 (nI 1) h)
  else
  fX9_infoOf_92 k63 r0 v1 v2 v5 v4 (nI 0) h
def lX9_infoOf_63  : Nat → Nat → Int32 → Int32 → Int32 → Int32 → AH → Option (Int32 × AH)
  | 0 => fun _ _ _ _ _ _ => none
  | n + 1 => bX9_infoOf_63 (lX9_infoOf_63 n)
def fX9_infoOf  (r0 : Nat) (v1 : Int32) (v2 : Int32) (v3 : Int32) : AH → Option (Int32 × AH) := fun h =>
  if (nI 6) ≤ v3 then (
    if v3 = (nI 6) then (
      cv 9 r0 (fX9_of r0 v1 v2 (nI 1)) h fun x_21 h =>
      some (x_21, h))
    else
    if v3 = (nI 7) then (
      lX9_infoOf_63 fuel r0 v1 v2 (nI 0) (nI 0) h)
    else
    if v3 = (nI 8) then (
      cv 9 r0 (fX9_supertypes r0 v1 v2) h fun x_22 h =>
      some (x_22, h))
    else
    cv 9 r0 (fX9_isIncomplete r0 v1 v2 (-2 : Int32)) h fun x_23 h =>
    if x_23 = 0 then (
      some ((nI 0), h))
    else
    some ((nI 1), h))
  else
  (gP 9 r0 0 h).bind fun a_24 =>
  bd (fX9_at v1 v2 h) fun x_25 h =>
  bd (fX9_placeOf v3 h) fun x_26 h =>
  (ldI a_24 (x_25 + x_26) h).bind fun x_27 =>
  some (x_27, h)
theorem sX9_infoOf_92 {k63 : Nat → Int32 → Int32 → Int32 → Int32 → AH → Option (Int32 × AH)} (h63 : ∀ (r0 : Nat) (v1 : Int32) (v2 : Int32) (v4 : Int32) (v5 : Int32), Sm mX9_infoOf rI 0 0 63 [some (.ref r0), some (.int v1), some (.int v2), none, some (.int v4), some (.int v5)] [] (k63 r0 v1 v2 v4 v5)) (r0 : Nat) (v1 : Int32) (v2 : Int32) (v5 : Int32) (s0 : Int32) (s1 : Int32) : Sm mX9_infoOf rI 0 0 92 [some (.ref r0), some (.int v1), some (.int v2), none, none, some (.int v5)] [.int s1, .int s0] (fX9_infoOf_92 k63 r0 v1 v2 v5 s0 s1) := by
  unfold fX9_infoOf_92
  refine S_iadd (pc := 92) dX9_infoOf_92 ?_
  refine Z_istore (pc := 93) (lv' := [some (.ref r0), some (.int v1), some (.int v2), none, some (.int (s0 + s1)), some (.int v5)]) dX9_infoOf_93 rfl rfl rfl ?_
  refine Z_iinc (pc := 95) (v := (nI 1)) (lv' := [some (.ref r0), some (.int v1), some (.int v2), none, some (.int (s0 + s1)), some (.int (v5 + (nI 1)))]) dX9_infoOf_95 rfl kI_1 rfl rfl rfl ?_
  refine S_goto (pc := 98) (tgt := 63) dX9_infoOf_98 (by decide) ?_
  exact (h63 r0 v1 v2 (s0 + s1) (v5 + (nI 1)))
theorem sbX9_infoOf_63  {k63 : Nat → Int32 → Int32 → Int32 → Int32 → AH → Option (Int32 × AH)} (h63 : ∀ (r0 : Nat) (v1 : Int32) (v2 : Int32) (v4 : Int32) (v5 : Int32), Sm mX9_infoOf rI 0 0 63 [some (.ref r0), some (.int v1), some (.int v2), none, some (.int v4), some (.int v5)] [] (k63 r0 v1 v2 v4 v5)) (r0 : Nat) (v1 : Int32) (v2 : Int32) (v4 : Int32) (v5 : Int32) : Sm mX9_infoOf rI 0 0 63 [some (.ref r0), some (.int v1), some (.int v2), none, some (.int v4), some (.int v5)] [] (bX9_infoOf_63 k63 r0 v1 v2 v4 v5) := by
  unfold bX9_infoOf_63
  refine S_iload (pc := 63) dX9_infoOf_63 rfl ?_
  refine S_aload_n (pc := 65) dX9_infoOf_65 rfl ?_
  refine S_iload_n (pc := 66) dX9_infoOf_66 rfl ?_
  refine Y_Vi (pc := 67) (st := [.int v5]) (kc' := 0) (ks' := 0) (ktX9_memberMany r0 v1) mw_X9_memberMany mv_X9_memberMany w1186 (RO.mk rfl rfl rfl rfl) rfl rfl rfl dX9_infoOf_67 ⟨rfl, rfl⟩ (fun x_19 => ?_)
  refine S_icmpge (pc := 70) (tgt := 101) dX9_infoOf_70 (by decide) ?_ ?_
  · refine S_iload (pc := 101) dX9_infoOf_101 rfl ?_
    exact S_iret (pc := 103) ⟨rfl, rfl⟩ rfl rfl dX9_infoOf_103
  · refine S_iload (pc := 73) dX9_infoOf_73 rfl ?_
    refine S_aload_n (pc := 75) dX9_infoOf_75 rfl ?_
    refine S_iload_n (pc := 76) dX9_infoOf_76 rfl ?_
    refine S_iload (pc := 77) dX9_infoOf_77 rfl ?_
    refine S_iconst (pc := 79) (v := (nI 1)) dX9_infoOf_79 kI_1 ?_
    refine Y_Vi (pc := 80) (st := [.int v4]) (kc' := 0) (ks' := 0) (ktX9_its r0 v1 v5 (nI 1)) mw_X9_its mv_X9_its w1243 (RO.mk rfl rfl rfl rfl) rfl rfl rfl dX9_infoOf_80 ⟨rfl, rfl⟩ (fun x_20 => ?_)
    refine S_iload_n (pc := 83) dX9_infoOf_83 rfl ?_
    refine S_icmpne (pc := 84) (tgt := 91) dX9_infoOf_84 (by decide) ?_ ?_
    · refine S_iconst (pc := 91) (v := (nI 0)) dX9_infoOf_91 kI_0 ?_
      exact (S_lv (lv0 := [some (.ref r0), some (.int v1), some (.int v2), none, none, some (.int v5)]) (And.intro rfl (And.intro rfl (And.intro rfl (And.intro rfl trivial)))) (sX9_infoOf_92 h63 r0 v1 v2 v5 v4 (nI 0)))
    · refine S_iconst (pc := 87) (v := (nI 1)) dX9_infoOf_87 kI_1 ?_
      refine S_goto (pc := 88) (tgt := 92) dX9_infoOf_88 (by decide) ?_
      exact (S_lv (lv0 := [some (.ref r0), some (.int v1), some (.int v2), none, none, some (.int v5)]) (And.intro rfl (And.intro rfl (And.intro rfl (And.intro rfl trivial)))) (sX9_infoOf_92 h63 r0 v1 v2 v5 v4 (nI 1)))
theorem sX9_infoOf_63  : ∀ (n : Nat) (r0 : Nat) (v1 : Int32) (v2 : Int32) (v4 : Int32) (v5 : Int32), Sm mX9_infoOf rI 0 0 63 [some (.ref r0), some (.int v1), some (.int v2), none, some (.int v4), some (.int v5)] [] (lX9_infoOf_63 n r0 v1 v2 v4 v5)
  | 0, _, _, _, _, _ => S_none
  | n + 1, r0, v1, v2, v4, v5 => sbX9_infoOf_63 (sX9_infoOf_63 n) r0 v1 v2 v4 v5
theorem sX9_infoOf  (r0 : Nat) (v1 : Int32) (v2 : Int32) (v3 : Int32) : Sm mX9_infoOf rI 0 0 0 [some (.ref r0), some (.int v1), some (.int v2), some (.int v3), none, none] [] (fX9_infoOf r0 v1 v2 v3) := by
  unfold fX9_infoOf
  refine S_iload_n (pc := 0) dX9_infoOf_0 rfl ?_
  refine S_bipush (pc := 1) (v := (nI 6)) dX9_infoOf_1 kB_6 ?_
  refine S_icmpge (pc := 3) (tgt := 22) dX9_infoOf_3 (by decide) ?_ ?_
  · refine S_iconst (pc := 22) (v := (nI 0)) dX9_infoOf_22 kI_0 ?_
    refine Z_istore (pc := 23) (lv' := [some (.ref r0), some (.int v1), some (.int v2), some (.int v3), some (.int (nI 0)), none]) dX9_infoOf_23 rfl rfl rfl ?_
    refine S_iload_n (pc := 25) dX9_infoOf_25 rfl ?_
    refine S_case (x := v3) (v := (nI 6)) (fun n0 => ?_) (fun n0 => ?_)
    · refine S_tsI (pc := 26) (tgt := 52) n0 dX9_infoOf_26 (by decide) rfl (by decide) ?_
      refine S_aload_n (pc := 52) dX9_infoOf_52 rfl ?_
      refine S_iload_n (pc := 53) dX9_infoOf_53 rfl ?_
      refine S_iload_n (pc := 54) dX9_infoOf_54 rfl ?_
      refine S_iconst (pc := 55) (v := (nI 1)) dX9_infoOf_55 kI_1 ?_
      refine Y_Vi (pc := 56) (st := []) (kc' := 0) (ks' := 0) (ktX9_of r0 v1 v2 (nI 1)) mw_X9_of mv_X9_of w1219 (RO.mk rfl rfl rfl rfl) rfl rfl rfl dX9_infoOf_56 ⟨rfl, rfl⟩ (fun x_21 => ?_)
      exact S_iret (pc := 59) ⟨rfl, rfl⟩ rfl rfl dX9_infoOf_59
    refine S_case (x := v3) (v := (nI 7)) (fun n1 => ?_) (fun n1 => ?_)
    · refine S_tsI (pc := 26) (tgt := 60) n1 dX9_infoOf_26 (by decide) rfl (by decide) ?_
      refine S_iconst (pc := 60) (v := (nI 0)) dX9_infoOf_60 kI_0 ?_
      refine Z_istore (pc := 61) (lv' := [some (.ref r0), some (.int v1), some (.int v2), some (.int v3), some (.int (nI 0)), some (.int (nI 0))]) dX9_infoOf_61 rfl rfl rfl ?_
      exact (S_lv (lv0 := [some (.ref r0), some (.int v1), some (.int v2), none, some (.int (nI 0)), some (.int (nI 0))]) (And.intro rfl (And.intro rfl (And.intro rfl (And.intro rfl (And.intro rfl trivial))))) (sX9_infoOf_63 fuel r0 v1 v2 (nI 0) (nI 0)))
    refine S_case (x := v3) (v := (nI 8)) (fun n2 => ?_) (fun n2 => ?_)
    · refine S_tsI (pc := 26) (tgt := 104) n2 dX9_infoOf_26 (by decide) rfl (by decide) ?_
      refine S_aload_n (pc := 104) dX9_infoOf_104 rfl ?_
      refine S_iload_n (pc := 105) dX9_infoOf_105 rfl ?_
      refine S_iload_n (pc := 106) dX9_infoOf_106 rfl ?_
      refine Y_Vi (pc := 107) (st := []) (kc' := 0) (ks' := 0) (ktX9_supertypes r0 v1 v2) mw_X9_supertypes mv_X9_supertypes w1258 (RO.mk rfl rfl rfl rfl) rfl rfl rfl dX9_infoOf_107 ⟨rfl, rfl⟩ (fun x_22 => ?_)
      exact S_iret (pc := 110) ⟨rfl, rfl⟩ rfl rfl dX9_infoOf_110
    refine S_tsD (pc := 26) (tgt := 111) (by have n0 := lv_neT (a := 6) n0 rfl; have n1 := lv_neT (a := 7) n1 rfl; have n2 := lv_neT (a := 8) n2 rfl; omega) dX9_infoOf_26 (by decide) ?_
    refine S_aload_n (pc := 111) dX9_infoOf_111 rfl ?_
    refine S_iload_n (pc := 112) dX9_infoOf_112 rfl ?_
    refine S_iload_n (pc := 113) dX9_infoOf_113 rfl ?_
    refine S_bipush (pc := 114) (v := (-2 : Int32)) dX9_infoOf_114 kB_m2 ?_
    refine Y_Vi (pc := 116) (st := []) (kc' := 0) (ks' := 0) (ktX9_isIncomplete r0 v1 v2 (-2 : Int32)) mw_X9_isIncomplete mv_X9_isIncomplete w1298 (RO.mk rfl rfl rfl rfl) rfl rfl rfl dX9_infoOf_116 ⟨rfl, rfl⟩ (fun x_23 => ?_)
    refine S_ifeq (pc := 119) (tgt := 126) dX9_infoOf_119 (by decide) ?_ ?_
    · refine S_iconst (pc := 126) (v := (nI 0)) dX9_infoOf_126 kI_0 ?_
      exact S_iret (pc := 127) ⟨rfl, rfl⟩ rfl rfl dX9_infoOf_127
    · refine S_iconst (pc := 122) (v := (nI 1)) dX9_infoOf_122 kI_1 ?_
      refine S_goto (pc := 123) (tgt := 127) dX9_infoOf_123 (by decide) ?_
      exact S_iret (pc := 127) ⟨rfl, rfl⟩ rfl rfl dX9_infoOf_127
  · refine S_aload_n (pc := 6) dX9_infoOf_6 rfl ?_
    refine S_gP (pc := 7) fl_X9_7 rfl dX9_infoOf_7 (fun a_24 => ?_)
    refine S_iload_n (pc := 10) dX9_infoOf_10 rfl ?_
    refine S_iload_n (pc := 11) dX9_infoOf_11 rfl ?_
    refine Y_Ti (pc := 12) (st := [.ref a_24]) (kc' := 0) (ks' := 0) (ktX9_at v1 v2) mw_X9_at w1180 w1179 (RO.mk rfl rfl rfl rfl) rfl rfl rfl dX9_infoOf_12 ⟨rfl, rfl⟩ (fun x_25 => ?_)
    refine S_iload_n (pc := 15) dX9_infoOf_15 rfl ?_
    refine Y_Ti (pc := 16) (st := [.int x_25, .ref a_24]) (kc' := 0) (ks' := 0) (ktX9_placeOf v3) mw_X9_placeOf w1468 w1467 (RO.mk rfl rfl rfl rfl) rfl rfl rfl dX9_infoOf_16 ⟨rfl, rfl⟩ (fun x_26 => ?_)
    refine S_iadd (pc := 19) dX9_infoOf_19 ?_
    refine S_ldI (pc := 20) dX9_infoOf_20 (fun x_27 => ?_)
    exact S_iret (pc := 21) ⟨rfl, rfl⟩ rfl rfl dX9_infoOf_21
theorem ktX9_infoOf (r0 : Nat) (v1 : Int32) (v2 : Int32) (v3 : Int32) : Ct mX9_infoOf rI [.ref r0, .int v1, .int v2, .int v3] (fX9_infoOf r0 v1 v2 v3) := Ct.of (z := 2) pn_X9 rfl rfl rfl (sX9_infoOf r0 v1 v2 v3)
def mX9_toldOf : MI := (yX9_toldOf, cX9_toldOf, 5, (some .int), { frames := 3, cells := 0, slots := 0, locals := 66 }, [])
theorem mw_X9_toldOf : MW mX9_toldOf 3 := ⟨w1541, w11, ⟨by decide, by decide⟩, by decide +kernel⟩
theorem mv_X9_toldOf : MV mX9_toldOf 9 := ⟨_, rfl, w1540, wp88⟩
def fX9_toldOf  (r0 : Nat) (v1 : Int32) (v2 : Int32) (v3 : Int32) : AH → Option (Int32 × AH) := fun h =>
  cv 9 r0 (fX9_isMethod r0 v1 v2) h fun x_11 h =>
  if v3 = (nI 0) then (
    cv 9 r0 (fX9_its r0 v1 v2 (nI 3)) h fun x_12 h =>
    some (x_12, h))
  else
  if v3 = (nI 1) then (
    cv 9 r0 (fX9_its r0 v1 v2 (nI 4)) h fun x_13 h =>
    some (x_13, h))
  else
  if v3 = (nI 2) then (
    cv 9 r0 (fX9_its r0 v1 v2 (nI 9)) h fun x_14 h =>
    some (x_14, h))
  else
  if v3 = (nI 3) then (
    if x_11 = 0 then (
      some ((nI 0), h))
    else
    some ((nI 1), h))
  else
  if v3 = (nI 4) then (
    cv 9 r0 (fX9_its r0 v1 v2 (nI 1)) h fun x_15 h =>
    some (x_15, h))
  else
  if v3 = (nI 5) then (
    cv 9 r0 (fX9_its r0 v1 v2 (nI 2)) h fun x_16 h =>
    some (x_16, h))
  else
  if v3 = (nI 6) then (
    cv 9 r0 (fX9_its r0 v1 v2 (nI 5)) h fun x_17 h =>
    some (x_17, h))
  else
  if v3 = (nI 7) then (
    if x_11 = 0 then (
      some ((-2 : Int32), h))
    else
    cv 9 r0 (fX9_its r0 v1 v2 (nI 6)) h fun x_18 h =>
    some (x_18, h))
  else
  if v3 = (nI 8) then (
    cv 9 r0 (fX9_its r0 v1 v2 (nI 7)) h fun x_19 h =>
    some (x_19, h))
  else
  cv 9 r0 (fX9_its r0 v1 v2 (nI 8)) h fun x_20 h =>
  some (x_20, h)
theorem sX9_toldOf  (r0 : Nat) (v1 : Int32) (v2 : Int32) (v3 : Int32) : Sm mX9_toldOf rI 0 0 0 [some (.ref r0), some (.int v1), some (.int v2), some (.int v3), none] [] (fX9_toldOf r0 v1 v2 v3) := by
  unfold fX9_toldOf
  refine S_aload_n (pc := 0) dX9_toldOf_0 rfl ?_
  refine S_iload_n (pc := 1) dX9_toldOf_1 rfl ?_
  refine S_iload_n (pc := 2) dX9_toldOf_2 rfl ?_
  refine Y_Vi (pc := 3) (st := []) (kc' := 0) (ks' := 0) (ktX9_isMethod r0 v1 v2) mw_X9_isMethod mv_X9_isMethod w1278 (RO.mk rfl rfl rfl rfl) rfl rfl rfl dX9_toldOf_3 ⟨rfl, rfl⟩ (fun x_11 => ?_)
  refine Z_istore (pc := 6) (lv' := [some (.ref r0), some (.int v1), some (.int v2), some (.int v3), some (.int x_11)]) dX9_toldOf_6 rfl rfl rfl ?_
  refine S_iload_n (pc := 8) dX9_toldOf_8 rfl ?_
  refine S_case (x := v3) (v := (nI 0)) (fun n0 => ?_) (fun n0 => ?_)
  · refine S_tsI (pc := 9) (tgt := 60) n0 dX9_toldOf_9 (by decide) rfl (by decide) ?_
    refine S_aload_n (pc := 60) dX9_toldOf_60 rfl ?_
    refine S_iload_n (pc := 61) dX9_toldOf_61 rfl ?_
    refine S_iload_n (pc := 62) dX9_toldOf_62 rfl ?_
    refine S_iconst (pc := 63) (v := (nI 3)) dX9_toldOf_63 kI_3 ?_
    refine Y_Vi (pc := 64) (st := []) (kc' := 0) (ks' := 0) (ktX9_its r0 v1 v2 (nI 3)) mw_X9_its mv_X9_its w1243 (RO.mk rfl rfl rfl rfl) rfl rfl rfl dX9_toldOf_64 ⟨rfl, rfl⟩ (fun x_12 => ?_)
    exact S_iret (pc := 67) ⟨rfl, rfl⟩ rfl rfl dX9_toldOf_67
  refine S_case (x := v3) (v := (nI 1)) (fun n1 => ?_) (fun n1 => ?_)
  · refine S_tsI (pc := 9) (tgt := 68) n1 dX9_toldOf_9 (by decide) rfl (by decide) ?_
    refine S_aload_n (pc := 68) dX9_toldOf_68 rfl ?_
    refine S_iload_n (pc := 69) dX9_toldOf_69 rfl ?_
    refine S_iload_n (pc := 70) dX9_toldOf_70 rfl ?_
    refine S_iconst (pc := 71) (v := (nI 4)) dX9_toldOf_71 kI_4 ?_
    refine Y_Vi (pc := 72) (st := []) (kc' := 0) (ks' := 0) (ktX9_its r0 v1 v2 (nI 4)) mw_X9_its mv_X9_its w1243 (RO.mk rfl rfl rfl rfl) rfl rfl rfl dX9_toldOf_72 ⟨rfl, rfl⟩ (fun x_13 => ?_)
    exact S_iret (pc := 75) ⟨rfl, rfl⟩ rfl rfl dX9_toldOf_75
  refine S_case (x := v3) (v := (nI 2)) (fun n2 => ?_) (fun n2 => ?_)
  · refine S_tsI (pc := 9) (tgt := 76) n2 dX9_toldOf_9 (by decide) rfl (by decide) ?_
    refine S_aload_n (pc := 76) dX9_toldOf_76 rfl ?_
    refine S_iload_n (pc := 77) dX9_toldOf_77 rfl ?_
    refine S_iload_n (pc := 78) dX9_toldOf_78 rfl ?_
    refine S_bipush (pc := 79) (v := (nI 9)) dX9_toldOf_79 kB_9 ?_
    refine Y_Vi (pc := 81) (st := []) (kc' := 0) (ks' := 0) (ktX9_its r0 v1 v2 (nI 9)) mw_X9_its mv_X9_its w1243 (RO.mk rfl rfl rfl rfl) rfl rfl rfl dX9_toldOf_81 ⟨rfl, rfl⟩ (fun x_14 => ?_)
    exact S_iret (pc := 84) ⟨rfl, rfl⟩ rfl rfl dX9_toldOf_84
  refine S_case (x := v3) (v := (nI 3)) (fun n3 => ?_) (fun n3 => ?_)
  · refine S_tsI (pc := 9) (tgt := 85) n3 dX9_toldOf_9 (by decide) rfl (by decide) ?_
    refine S_iload (pc := 85) dX9_toldOf_85 rfl ?_
    refine S_ifeq (pc := 87) (tgt := 94) dX9_toldOf_87 (by decide) ?_ ?_
    · refine S_iconst (pc := 94) (v := (nI 0)) dX9_toldOf_94 kI_0 ?_
      exact S_iret (pc := 95) ⟨rfl, rfl⟩ rfl rfl dX9_toldOf_95
    · refine S_iconst (pc := 90) (v := (nI 1)) dX9_toldOf_90 kI_1 ?_
      refine S_goto (pc := 91) (tgt := 95) dX9_toldOf_91 (by decide) ?_
      exact S_iret (pc := 95) ⟨rfl, rfl⟩ rfl rfl dX9_toldOf_95
  refine S_case (x := v3) (v := (nI 4)) (fun n4 => ?_) (fun n4 => ?_)
  · refine S_tsI (pc := 9) (tgt := 96) n4 dX9_toldOf_9 (by decide) rfl (by decide) ?_
    refine S_aload_n (pc := 96) dX9_toldOf_96 rfl ?_
    refine S_iload_n (pc := 97) dX9_toldOf_97 rfl ?_
    refine S_iload_n (pc := 98) dX9_toldOf_98 rfl ?_
    refine S_iconst (pc := 99) (v := (nI 1)) dX9_toldOf_99 kI_1 ?_
    refine Y_Vi (pc := 100) (st := []) (kc' := 0) (ks' := 0) (ktX9_its r0 v1 v2 (nI 1)) mw_X9_its mv_X9_its w1243 (RO.mk rfl rfl rfl rfl) rfl rfl rfl dX9_toldOf_100 ⟨rfl, rfl⟩ (fun x_15 => ?_)
    exact S_iret (pc := 103) ⟨rfl, rfl⟩ rfl rfl dX9_toldOf_103
  refine S_case (x := v3) (v := (nI 5)) (fun n5 => ?_) (fun n5 => ?_)
  · refine S_tsI (pc := 9) (tgt := 104) n5 dX9_toldOf_9 (by decide) rfl (by decide) ?_
    refine S_aload_n (pc := 104) dX9_toldOf_104 rfl ?_
    refine S_iload_n (pc := 105) dX9_toldOf_105 rfl ?_
    refine S_iload_n (pc := 106) dX9_toldOf_106 rfl ?_
    refine S_iconst (pc := 107) (v := (nI 2)) dX9_toldOf_107 kI_2 ?_
    refine Y_Vi (pc := 108) (st := []) (kc' := 0) (ks' := 0) (ktX9_its r0 v1 v2 (nI 2)) mw_X9_its mv_X9_its w1243 (RO.mk rfl rfl rfl rfl) rfl rfl rfl dX9_toldOf_108 ⟨rfl, rfl⟩ (fun x_16 => ?_)
    exact S_iret (pc := 111) ⟨rfl, rfl⟩ rfl rfl dX9_toldOf_111
  refine S_case (x := v3) (v := (nI 6)) (fun n6 => ?_) (fun n6 => ?_)
  · refine S_tsI (pc := 9) (tgt := 112) n6 dX9_toldOf_9 (by decide) rfl (by decide) ?_
    refine S_aload_n (pc := 112) dX9_toldOf_112 rfl ?_
    refine S_iload_n (pc := 113) dX9_toldOf_113 rfl ?_
    refine S_iload_n (pc := 114) dX9_toldOf_114 rfl ?_
    refine S_iconst (pc := 115) (v := (nI 5)) dX9_toldOf_115 kI_5 ?_
    refine Y_Vi (pc := 116) (st := []) (kc' := 0) (ks' := 0) (ktX9_its r0 v1 v2 (nI 5)) mw_X9_its mv_X9_its w1243 (RO.mk rfl rfl rfl rfl) rfl rfl rfl dX9_toldOf_116 ⟨rfl, rfl⟩ (fun x_17 => ?_)
    exact S_iret (pc := 119) ⟨rfl, rfl⟩ rfl rfl dX9_toldOf_119
  refine S_case (x := v3) (v := (nI 7)) (fun n7 => ?_) (fun n7 => ?_)
  · refine S_tsI (pc := 9) (tgt := 120) n7 dX9_toldOf_9 (by decide) rfl (by decide) ?_
    refine S_iload (pc := 120) dX9_toldOf_120 rfl ?_
    refine S_ifeq (pc := 122) (tgt := 136) dX9_toldOf_122 (by decide) ?_ ?_
    · refine S_bipush (pc := 136) (v := (-2 : Int32)) dX9_toldOf_136 kB_m2 ?_
      exact S_iret (pc := 138) ⟨rfl, rfl⟩ rfl rfl dX9_toldOf_138
    · refine S_aload_n (pc := 125) dX9_toldOf_125 rfl ?_
      refine S_iload_n (pc := 126) dX9_toldOf_126 rfl ?_
      refine S_iload_n (pc := 127) dX9_toldOf_127 rfl ?_
      refine S_bipush (pc := 128) (v := (nI 6)) dX9_toldOf_128 kB_6 ?_
      refine Y_Vi (pc := 130) (st := []) (kc' := 0) (ks' := 0) (ktX9_its r0 v1 v2 (nI 6)) mw_X9_its mv_X9_its w1243 (RO.mk rfl rfl rfl rfl) rfl rfl rfl dX9_toldOf_130 ⟨rfl, rfl⟩ (fun x_18 => ?_)
      refine S_goto (pc := 133) (tgt := 138) dX9_toldOf_133 (by decide) ?_
      exact S_iret (pc := 138) ⟨rfl, rfl⟩ rfl rfl dX9_toldOf_138
  refine S_case (x := v3) (v := (nI 8)) (fun n8 => ?_) (fun n8 => ?_)
  · refine S_tsI (pc := 9) (tgt := 139) n8 dX9_toldOf_9 (by decide) rfl (by decide) ?_
    refine S_aload_n (pc := 139) dX9_toldOf_139 rfl ?_
    refine S_iload_n (pc := 140) dX9_toldOf_140 rfl ?_
    refine S_iload_n (pc := 141) dX9_toldOf_141 rfl ?_
    refine S_bipush (pc := 142) (v := (nI 7)) dX9_toldOf_142 kB_7 ?_
    refine Y_Vi (pc := 144) (st := []) (kc' := 0) (ks' := 0) (ktX9_its r0 v1 v2 (nI 7)) mw_X9_its mv_X9_its w1243 (RO.mk rfl rfl rfl rfl) rfl rfl rfl dX9_toldOf_144 ⟨rfl, rfl⟩ (fun x_19 => ?_)
    exact S_iret (pc := 147) ⟨rfl, rfl⟩ rfl rfl dX9_toldOf_147
  refine S_tsD (pc := 9) (tgt := 148) (by have n0 := lv_neT (a := 0) n0 rfl; have n1 := lv_neT (a := 1) n1 rfl; have n2 := lv_neT (a := 2) n2 rfl; have n3 := lv_neT (a := 3) n3 rfl; have n4 := lv_neT (a := 4) n4 rfl; have n5 := lv_neT (a := 5) n5 rfl; have n6 := lv_neT (a := 6) n6 rfl; have n7 := lv_neT (a := 7) n7 rfl; have n8 := lv_neT (a := 8) n8 rfl; omega) dX9_toldOf_9 (by decide) ?_
  refine S_aload_n (pc := 148) dX9_toldOf_148 rfl ?_
  refine S_iload_n (pc := 149) dX9_toldOf_149 rfl ?_
  refine S_iload_n (pc := 150) dX9_toldOf_150 rfl ?_
  refine S_bipush (pc := 151) (v := (nI 8)) dX9_toldOf_151 kB_8 ?_
  refine Y_Vi (pc := 153) (st := []) (kc' := 0) (ks' := 0) (ktX9_its r0 v1 v2 (nI 8)) mw_X9_its mv_X9_its w1243 (RO.mk rfl rfl rfl rfl) rfl rfl rfl dX9_toldOf_153 ⟨rfl, rfl⟩ (fun x_20 => ?_)
  exact S_iret (pc := 156) ⟨rfl, rfl⟩ rfl rfl dX9_toldOf_156
theorem ktX9_toldOf (r0 : Nat) (v1 : Int32) (v2 : Int32) (v3 : Int32) : Ct mX9_toldOf rI [.ref r0, .int v1, .int v2, .int v3] (fX9_toldOf r0 v1 v2 v3) := Ct.of (z := 1) pn_X9 rfl rfl rfl (sX9_toldOf r0 v1 v2 v3)
def mX9_clientTold : MI := (yX9_clientTold, cX9_clientTold, 3, (some .int), { frames := 1, cells := 0, slots := 0, locals := 20 }, [])
theorem mw_X9_clientTold : MW mX9_clientTold 2 := ⟨w1604, w11, ⟨by decide, by decide⟩, by decide +kernel⟩
theorem mv_X9_clientTold : MV mX9_clientTold 9 := ⟨_, rfl, w1603, wp94⟩
def fX9_clientTold  (r0 : Nat) (v1 : Int32) (v2 : Int32) : AH → Option (Int32 × AH) := fun h =>
  if v2 = (nI 6) then (
    (gP 9 r0 0 h).bind fun a_16 =>
    bd (fX9_client v1 h) fun x_17 h =>
    (ldI a_16 ((x_17 + (nI 8)) + (nI 0)) h).bind fun x_18 =>
    some (x_18, h))
  else
  if v2 = (nI 7) then (
    (gP 9 r0 0 h).bind fun a_19 =>
    bd (fX9_client v1 h) fun x_20 h =>
    (ldI a_19 ((x_20 + (nI 8)) + (nI 1)) h).bind fun x_21 =>
    some (x_21, h))
  else
  if v2 = (nI 8) then (
    (gP 9 r0 0 h).bind fun a_22 =>
    bd (fX9_client v1 h) fun x_23 h =>
    (ldI a_22 ((x_23 + (nI 8)) + (nI 2)) h).bind fun x_24 =>
    some (x_24, h))
  else
  if v2 = (nI 9) then (
    (gP 9 r0 0 h).bind fun a_25 =>
    bd (fX9_client v1 h) fun x_26 h =>
    (ldI a_25 ((x_26 + (nI 8)) + (nI 3)) h).bind fun x_27 =>
    some (x_27, h))
  else
  (gP 9 r0 0 h).bind fun a_28 =>
  bd (fX9_client v1 h) fun x_29 h =>
  (ldI a_28 (x_29 + v2) h).bind fun x_30 =>
  some (x_30, h)
theorem sX9_clientTold  (r0 : Nat) (v1 : Int32) (v2 : Int32) : Sm mX9_clientTold rI 0 0 0 [some (.ref r0), some (.int v1), some (.int v2)] [] (fX9_clientTold r0 v1 v2) := by
  unfold fX9_clientTold
  refine S_iload_n (pc := 0) dX9_clientTold_0 rfl ?_
  refine S_case (x := v2) (v := (nI 6)) (fun n0 => ?_) (fun n0 => ?_)
  · refine S_tsI (pc := 1) (tgt := 32) n0 dX9_clientTold_1 (by decide) rfl (by decide) ?_
    refine S_aload_n (pc := 32) dX9_clientTold_32 rfl ?_
    refine S_gP (pc := 33) fl_X9_7 rfl dX9_clientTold_33 (fun a_16 => ?_)
    refine S_iload_n (pc := 36) dX9_clientTold_36 rfl ?_
    refine Y_Ti (pc := 37) (st := [.ref a_16]) (kc' := 0) (ks' := 0) (ktX9_client v1) mw_X9_client w1343 w1342 (RO.mk rfl rfl rfl rfl) rfl rfl rfl dX9_clientTold_37 ⟨rfl, rfl⟩ (fun x_17 => ?_)
    refine S_bipush (pc := 40) (v := (nI 8)) dX9_clientTold_40 kB_8 ?_
    refine S_iadd (pc := 42) dX9_clientTold_42 ?_
    refine S_iconst (pc := 43) (v := (nI 0)) dX9_clientTold_43 kI_0 ?_
    refine S_iadd (pc := 44) dX9_clientTold_44 ?_
    refine S_ldI (pc := 45) dX9_clientTold_45 (fun x_18 => ?_)
    exact S_iret (pc := 46) ⟨rfl, rfl⟩ rfl rfl dX9_clientTold_46
  refine S_case (x := v2) (v := (nI 7)) (fun n1 => ?_) (fun n1 => ?_)
  · refine S_tsI (pc := 1) (tgt := 47) n1 dX9_clientTold_1 (by decide) rfl (by decide) ?_
    refine S_aload_n (pc := 47) dX9_clientTold_47 rfl ?_
    refine S_gP (pc := 48) fl_X9_7 rfl dX9_clientTold_48 (fun a_19 => ?_)
    refine S_iload_n (pc := 51) dX9_clientTold_51 rfl ?_
    refine Y_Ti (pc := 52) (st := [.ref a_19]) (kc' := 0) (ks' := 0) (ktX9_client v1) mw_X9_client w1343 w1342 (RO.mk rfl rfl rfl rfl) rfl rfl rfl dX9_clientTold_52 ⟨rfl, rfl⟩ (fun x_20 => ?_)
    refine S_bipush (pc := 55) (v := (nI 8)) dX9_clientTold_55 kB_8 ?_
    refine S_iadd (pc := 57) dX9_clientTold_57 ?_
    refine S_iconst (pc := 58) (v := (nI 1)) dX9_clientTold_58 kI_1 ?_
    refine S_iadd (pc := 59) dX9_clientTold_59 ?_
    refine S_ldI (pc := 60) dX9_clientTold_60 (fun x_21 => ?_)
    exact S_iret (pc := 61) ⟨rfl, rfl⟩ rfl rfl dX9_clientTold_61
  refine S_case (x := v2) (v := (nI 8)) (fun n2 => ?_) (fun n2 => ?_)
  · refine S_tsI (pc := 1) (tgt := 62) n2 dX9_clientTold_1 (by decide) rfl (by decide) ?_
    refine S_aload_n (pc := 62) dX9_clientTold_62 rfl ?_
    refine S_gP (pc := 63) fl_X9_7 rfl dX9_clientTold_63 (fun a_22 => ?_)
    refine S_iload_n (pc := 66) dX9_clientTold_66 rfl ?_
    refine Y_Ti (pc := 67) (st := [.ref a_22]) (kc' := 0) (ks' := 0) (ktX9_client v1) mw_X9_client w1343 w1342 (RO.mk rfl rfl rfl rfl) rfl rfl rfl dX9_clientTold_67 ⟨rfl, rfl⟩ (fun x_23 => ?_)
    refine S_bipush (pc := 70) (v := (nI 8)) dX9_clientTold_70 kB_8 ?_
    refine S_iadd (pc := 72) dX9_clientTold_72 ?_
    refine S_iconst (pc := 73) (v := (nI 2)) dX9_clientTold_73 kI_2 ?_
    refine S_iadd (pc := 74) dX9_clientTold_74 ?_
    refine S_ldI (pc := 75) dX9_clientTold_75 (fun x_24 => ?_)
    exact S_iret (pc := 76) ⟨rfl, rfl⟩ rfl rfl dX9_clientTold_76
  refine S_case (x := v2) (v := (nI 9)) (fun n3 => ?_) (fun n3 => ?_)
  · refine S_tsI (pc := 1) (tgt := 77) n3 dX9_clientTold_1 (by decide) rfl (by decide) ?_
    refine S_aload_n (pc := 77) dX9_clientTold_77 rfl ?_
    refine S_gP (pc := 78) fl_X9_7 rfl dX9_clientTold_78 (fun a_25 => ?_)
    refine S_iload_n (pc := 81) dX9_clientTold_81 rfl ?_
    refine Y_Ti (pc := 82) (st := [.ref a_25]) (kc' := 0) (ks' := 0) (ktX9_client v1) mw_X9_client w1343 w1342 (RO.mk rfl rfl rfl rfl) rfl rfl rfl dX9_clientTold_82 ⟨rfl, rfl⟩ (fun x_26 => ?_)
    refine S_bipush (pc := 85) (v := (nI 8)) dX9_clientTold_85 kB_8 ?_
    refine S_iadd (pc := 87) dX9_clientTold_87 ?_
    refine S_iconst (pc := 88) (v := (nI 3)) dX9_clientTold_88 kI_3 ?_
    refine S_iadd (pc := 89) dX9_clientTold_89 ?_
    refine S_ldI (pc := 90) dX9_clientTold_90 (fun x_27 => ?_)
    exact S_iret (pc := 91) ⟨rfl, rfl⟩ rfl rfl dX9_clientTold_91
  refine S_tsD (pc := 1) (tgt := 92) (by have n0 := lv_neT (a := 6) n0 rfl; have n1 := lv_neT (a := 7) n1 rfl; have n2 := lv_neT (a := 8) n2 rfl; have n3 := lv_neT (a := 9) n3 rfl; omega) dX9_clientTold_1 (by decide) ?_
  refine S_aload_n (pc := 92) dX9_clientTold_92 rfl ?_
  refine S_gP (pc := 93) fl_X9_7 rfl dX9_clientTold_93 (fun a_28 => ?_)
  refine S_iload_n (pc := 96) dX9_clientTold_96 rfl ?_
  refine Y_Ti (pc := 97) (st := [.ref a_28]) (kc' := 0) (ks' := 0) (ktX9_client v1) mw_X9_client w1343 w1342 (RO.mk rfl rfl rfl rfl) rfl rfl rfl dX9_clientTold_97 ⟨rfl, rfl⟩ (fun x_29 => ?_)
  refine S_iload_n (pc := 100) dX9_clientTold_100 rfl ?_
  refine S_iadd (pc := 101) dX9_clientTold_101 ?_
  refine S_ldI (pc := 102) dX9_clientTold_102 (fun x_30 => ?_)
  exact S_iret (pc := 103) ⟨rfl, rfl⟩ rfl rfl dX9_clientTold_103
theorem ktX9_clientTold (r0 : Nat) (v1 : Int32) (v2 : Int32) : Ct mX9_clientTold rI [.ref r0, .int v1, .int v2] (fX9_clientTold r0 v1 v2) := Ct.of (z := 0) pn_X9 rfl rfl rfl (sX9_clientTold r0 v1 v2)
def mX9_takes : MI := (yX9_takes, cX9_takes, 3, none, { frames := 1, cells := 0, slots := 0, locals := 20 }, [])
theorem mw_X9_takes : MW mX9_takes 1 := ⟨w1588, w11, ⟨by decide, by decide⟩, by decide +kernel⟩
theorem mv_X9_takes : MV mX9_takes 9 := ⟨_, rfl, w1587, wp93⟩
def bX9_takes_2  (k2 : Nat → Int32 → Int32 → AH → Option (Unit × AH)) (r0 : Nat) (v1 : Int32) (v2 : Int32) : AH → Option (Unit × AH) := fun h =>
  if (nI 16) ≤ v2 then (
    some ((), h))
  else
  (gP 9 r0 15 h).bind fun a_9 =>
  (gP 9 r0 0 h).bind fun a_10 =>
  bd (fX9_client v1 h) fun x_11 h =>
  (ldI a_10 (x_11 + v2) h).bind fun x_12 =>
  (stI a_9 v2 x_12 h).bind fun h =>
  k2 r0 v1 (v2 + (nI 1)) h
def lX9_takes_2  : Nat → Nat → Int32 → Int32 → AH → Option (Unit × AH)
  | 0 => fun _ _ _ _ => none
  | n + 1 => bX9_takes_2 (lX9_takes_2 n)
def fX9_takes  (r0 : Nat) (v1 : Int32) : AH → Option (Unit × AH) := fun h =>
  lX9_takes_2 fuel r0 v1 (nI 0) h
theorem sbX9_takes_2  {k2 : Nat → Int32 → Int32 → AH → Option (Unit × AH)} (h2 : ∀ (r0 : Nat) (v1 : Int32) (v2 : Int32), Sm mX9_takes rV 0 0 2 [some (.ref r0), some (.int v1), some (.int v2)] [] (k2 r0 v1 v2)) (r0 : Nat) (v1 : Int32) (v2 : Int32) : Sm mX9_takes rV 0 0 2 [some (.ref r0), some (.int v1), some (.int v2)] [] (bX9_takes_2 k2 r0 v1 v2) := by
  unfold bX9_takes_2
  refine S_iload_n (pc := 2) dX9_takes_2 rfl ?_
  refine S_bipush (pc := 3) (v := (nI 16)) dX9_takes_3 kB_16 ?_
  refine S_icmpge (pc := 5) (tgt := 31) dX9_takes_5 (by decide) ?_ ?_
  · exact S_vret (pc := 31) ⟨rfl, rfl⟩ rfl rfl dX9_takes_31
  · refine S_aload_n (pc := 8) dX9_takes_8 rfl ?_
    refine S_gP (pc := 9) fl_X9_22 rfl dX9_takes_9 (fun a_9 => ?_)
    refine S_iload_n (pc := 12) dX9_takes_12 rfl ?_
    refine S_aload_n (pc := 13) dX9_takes_13 rfl ?_
    refine S_gP (pc := 14) fl_X9_7 rfl dX9_takes_14 (fun a_10 => ?_)
    refine S_iload_n (pc := 17) dX9_takes_17 rfl ?_
    refine Y_Ti (pc := 18) (st := [.ref a_10, .int v2, .ref a_9]) (kc' := 0) (ks' := 0) (ktX9_client v1) mw_X9_client w1343 w1342 (RO.mk rfl rfl rfl rfl) rfl rfl rfl dX9_takes_18 ⟨rfl, rfl⟩ (fun x_11 => ?_)
    refine S_iload_n (pc := 21) dX9_takes_21 rfl ?_
    refine S_iadd (pc := 22) dX9_takes_22 ?_
    refine S_ldI (pc := 23) dX9_takes_23 (fun x_12 => ?_)
    refine S_stI (pc := 24) dX9_takes_24 ?_
    refine Z_iinc (pc := 25) (v := (nI 1)) (lv' := [some (.ref r0), some (.int v1), some (.int (v2 + (nI 1)))]) dX9_takes_25 rfl kI_1 rfl rfl rfl ?_
    refine S_goto (pc := 28) (tgt := 2) dX9_takes_28 (by decide) ?_
    exact (h2 r0 v1 (v2 + (nI 1)))
theorem sX9_takes_2  : ∀ (n : Nat) (r0 : Nat) (v1 : Int32) (v2 : Int32), Sm mX9_takes rV 0 0 2 [some (.ref r0), some (.int v1), some (.int v2)] [] (lX9_takes_2 n r0 v1 v2)
  | 0, _, _, _ => S_none
  | n + 1, r0, v1, v2 => sbX9_takes_2 (sX9_takes_2 n) r0 v1 v2
theorem sX9_takes  (r0 : Nat) (v1 : Int32) : Sm mX9_takes rV 0 0 0 [some (.ref r0), some (.int v1), none] [] (fX9_takes r0 v1) := by
  unfold fX9_takes
  refine S_iconst (pc := 0) (v := (nI 0)) dX9_takes_0 kI_0 ?_
  refine Z_istore_n (pc := 1) (lv' := [some (.ref r0), some (.int v1), some (.int (nI 0))]) dX9_takes_1 rfl rfl rfl ?_
  exact (sX9_takes_2 fuel r0 v1 (nI 0))
theorem ktX9_takes (r0 : Nat) (v1 : Int32) : Ct mX9_takes rV [.ref r0, .int v1] (fX9_takes r0 v1) := Ct.of (z := 1) pn_X9 rfl rfl rfl (sX9_takes r0 v1)
def mX9_linkedField : MI := (yX9_linkedField, cX9_linkedField, 4, (some .int), { frames := 6, cells := 0, slots := 0, locals := 152 }, [])
theorem mw_X9_linkedField : MW mX9_linkedField 2 := ⟨w1624, w11, ⟨by decide, by decide⟩, by decide +kernel⟩
theorem mv_X9_linkedField : MV mX9_linkedField 9 := ⟨_, rfl, w1623, wp97⟩
def fX9_linkedField_87  (r0 : Nat) (v1 : Int32) (v3 : Int32) : AH → Option (Int32 × AH) := fun h =>
  cv 9 r0 (fX9_its r0 v1 v3 (nI 1)) h fun x_27 h =>
  (pI 9 r0 18 x_27 h).bind fun h =>
  some ((nI 0), h)
def fX9_linkedField_54  (r0 : Nat) (v1 : Int32) (v3 : Int32) (s0 : Int32) : AH → Option (Int32 × AH) := fun h =>
  (gP 9 r0 15 h).bind fun a_28 =>
  (ldI a_28 (nI 11) h).bind fun x_29 =>
  if s0 = x_29 then (
    (gP 9 r0 15 h).bind fun a_30 =>
    (ldI a_30 (nI 0) h).bind fun x_31 =>
    if x_31 = (nI 1) then (
      cv 9 r0 (fX9_isFinal r0 v1 v3) h fun x_32 h =>
      if x_32 = 0 then (
        fX9_linkedField_87 r0 v1 v3 h)
      else
      some ((nI 2), h))
    else
    fX9_linkedField_87 r0 v1 v3 h)
  else
  some ((nI 5), h)
def fX9_linkedField  (r0 : Nat) (v1 : Int32) (v2 : Int32) : AH → Option (Int32 × AH) := fun h =>
  (gP 9 r0 15 h).bind fun a_33 =>
  (ldI a_33 (nI 2) h).bind fun x_34 =>
  (gP 9 r0 15 h).bind fun a_35 =>
  (ldI a_35 (nI 10) h).bind fun x_36 =>
  cv 9 r0 (fX9_fieldOf r0 v1 v2 x_34 (nI 0) x_36) h fun x_37 h =>
  if x_37 = (-2 : Int32) then (
    some ((nI 3), h))
  else
  cv 9 r0 (fX9_isOpen r0 v1 x_37) h fun x_38 h =>
  if x_38 = 0 then (
    some ((nI 2), h))
  else
  cv 9 r0 (fX9_isStatic r0 v1 x_37) h fun x_39 h =>
  if x_39 = 0 then (
    fX9_linkedField_54 r0 v1 x_37 (nI 0) h)
  else
  fX9_linkedField_54 r0 v1 x_37 (nI 1) h
theorem sX9_linkedField_87  (r0 : Nat) (v1 : Int32) (v3 : Int32) : Sm mX9_linkedField rI 0 0 87 [some (.ref r0), some (.int v1), none, some (.int v3)] [] (fX9_linkedField_87 r0 v1 v3) := by
  unfold fX9_linkedField_87
  refine S_aload_n (pc := 87) dX9_linkedField_87 rfl ?_
  refine S_aload_n (pc := 88) dX9_linkedField_88 rfl ?_
  refine S_iload_n (pc := 89) dX9_linkedField_89 rfl ?_
  refine S_iload_n (pc := 90) dX9_linkedField_90 rfl ?_
  refine S_iconst (pc := 91) (v := (nI 1)) dX9_linkedField_91 kI_1 ?_
  refine Y_Vi (pc := 92) (st := [.ref r0]) (kc' := 0) (ks' := 0) (ktX9_its r0 v1 v3 (nI 1)) mw_X9_its mv_X9_its w1243 (RO.mk rfl rfl rfl rfl) rfl rfl rfl dX9_linkedField_92 ⟨rfl, rfl⟩ (fun x_27 => ?_)
  refine S_pI (pc := 95) fl_X9_265 rfl rfl dX9_linkedField_95 ?_
  refine S_iconst (pc := 98) (v := (nI 0)) dX9_linkedField_98 kI_0 ?_
  exact S_iret (pc := 99) ⟨rfl, rfl⟩ rfl rfl dX9_linkedField_99
theorem sX9_linkedField_54  (r0 : Nat) (v1 : Int32) (v3 : Int32) (s0 : Int32) : Sm mX9_linkedField rI 0 0 54 [some (.ref r0), some (.int v1), none, some (.int v3)] [.int s0] (fX9_linkedField_54 r0 v1 v3 s0) := by
  unfold fX9_linkedField_54
  refine S_aload_n (pc := 54) dX9_linkedField_54 rfl ?_
  refine S_gP (pc := 55) fl_X9_22 rfl dX9_linkedField_55 (fun a_28 => ?_)
  refine S_bipush (pc := 58) (v := (nI 11)) dX9_linkedField_58 kB_11 ?_
  refine S_ldI (pc := 60) dX9_linkedField_60 (fun x_29 => ?_)
  refine S_icmpeq (pc := 61) (tgt := 66) dX9_linkedField_61 (by decide) ?_ ?_
  · refine S_aload_n (pc := 66) dX9_linkedField_66 rfl ?_
    refine S_gP (pc := 67) fl_X9_22 rfl dX9_linkedField_67 (fun a_30 => ?_)
    refine S_iconst (pc := 70) (v := (nI 0)) dX9_linkedField_70 kI_0 ?_
    refine S_ldI (pc := 71) dX9_linkedField_71 (fun x_31 => ?_)
    refine S_iconst (pc := 72) (v := (nI 1)) dX9_linkedField_72 kI_1 ?_
    refine S_icmpne (pc := 73) (tgt := 87) dX9_linkedField_73 (by decide) ?_ ?_
    · exact (sX9_linkedField_87 r0 v1 v3)
    · refine S_aload_n (pc := 76) dX9_linkedField_76 rfl ?_
      refine S_iload_n (pc := 77) dX9_linkedField_77 rfl ?_
      refine S_iload_n (pc := 78) dX9_linkedField_78 rfl ?_
      refine Y_Vi (pc := 79) (st := []) (kc' := 0) (ks' := 0) (ktX9_isFinal r0 v1 v3) mw_X9_isFinal mv_X9_isFinal w1262 (RO.mk rfl rfl rfl rfl) rfl rfl rfl dX9_linkedField_79 ⟨rfl, rfl⟩ (fun x_32 => ?_)
      refine S_ifeq (pc := 82) (tgt := 87) dX9_linkedField_82 (by decide) ?_ ?_
      · exact (sX9_linkedField_87 r0 v1 v3)
      · refine S_iconst (pc := 85) (v := (nI 2)) dX9_linkedField_85 kI_2 ?_
        exact S_iret (pc := 86) ⟨rfl, rfl⟩ rfl rfl dX9_linkedField_86
  · refine S_iconst (pc := 64) (v := (nI 5)) dX9_linkedField_64 kI_5 ?_
    exact S_iret (pc := 65) ⟨rfl, rfl⟩ rfl rfl dX9_linkedField_65
theorem sX9_linkedField  (r0 : Nat) (v1 : Int32) (v2 : Int32) : Sm mX9_linkedField rI 0 0 0 [some (.ref r0), some (.int v1), some (.int v2), none] [] (fX9_linkedField r0 v1 v2) := by
  unfold fX9_linkedField
  refine S_aload_n (pc := 0) dX9_linkedField_0 rfl ?_
  refine S_iload_n (pc := 1) dX9_linkedField_1 rfl ?_
  refine S_iload_n (pc := 2) dX9_linkedField_2 rfl ?_
  refine S_aload_n (pc := 3) dX9_linkedField_3 rfl ?_
  refine S_gP (pc := 4) fl_X9_22 rfl dX9_linkedField_4 (fun a_33 => ?_)
  refine S_iconst (pc := 7) (v := (nI 2)) dX9_linkedField_7 kI_2 ?_
  refine S_ldI (pc := 8) dX9_linkedField_8 (fun x_34 => ?_)
  refine S_iconst (pc := 9) (v := (nI 0)) dX9_linkedField_9 kI_0 ?_
  refine S_aload_n (pc := 10) dX9_linkedField_10 rfl ?_
  refine S_gP (pc := 11) fl_X9_22 rfl dX9_linkedField_11 (fun a_35 => ?_)
  refine S_bipush (pc := 14) (v := (nI 10)) dX9_linkedField_14 kB_10 ?_
  refine S_ldI (pc := 16) dX9_linkedField_16 (fun x_36 => ?_)
  refine Y_Vi (pc := 17) (st := []) (kc' := 0) (ks' := 0) (ktX9_fieldOf r0 v1 v2 x_34 (nI 0) x_36) mw_X9_fieldOf mv_X9_fieldOf w1231 (RO.mk rfl rfl rfl rfl) rfl rfl rfl dX9_linkedField_17 ⟨rfl, rfl⟩ (fun x_37 => ?_)
  refine Z_istore_n (pc := 20) (lv' := [some (.ref r0), some (.int v1), some (.int v2), some (.int x_37)]) dX9_linkedField_20 rfl rfl rfl ?_
  refine S_iload_n (pc := 21) dX9_linkedField_21 rfl ?_
  refine S_bipush (pc := 22) (v := (-2 : Int32)) dX9_linkedField_22 kB_m2 ?_
  refine S_icmpne (pc := 24) (tgt := 29) dX9_linkedField_24 (by decide) ?_ ?_
  · refine S_aload_n (pc := 29) dX9_linkedField_29 rfl ?_
    refine S_iload_n (pc := 30) dX9_linkedField_30 rfl ?_
    refine S_iload_n (pc := 31) dX9_linkedField_31 rfl ?_
    refine Y_Vi (pc := 32) (st := []) (kc' := 0) (ks' := 0) (ktX9_isOpen r0 v1 x_37) mw_X9_isOpen mv_X9_isOpen w1254 (RO.mk rfl rfl rfl rfl) rfl rfl rfl dX9_linkedField_32 ⟨rfl, rfl⟩ (fun x_38 => ?_)
    refine S_ifne (pc := 35) (tgt := 40) dX9_linkedField_35 (by decide) ?_ ?_
    · refine S_aload_n (pc := 40) dX9_linkedField_40 rfl ?_
      refine S_iload_n (pc := 41) dX9_linkedField_41 rfl ?_
      refine S_iload_n (pc := 42) dX9_linkedField_42 rfl ?_
      refine Y_Vi (pc := 43) (st := []) (kc' := 0) (ks' := 0) (ktX9_isStatic r0 v1 x_37) mw_X9_isStatic mv_X9_isStatic w1266 (RO.mk rfl rfl rfl rfl) rfl rfl rfl dX9_linkedField_43 ⟨rfl, rfl⟩ (fun x_39 => ?_)
      refine S_ifeq (pc := 46) (tgt := 53) dX9_linkedField_46 (by decide) ?_ ?_
      · refine S_iconst (pc := 53) (v := (nI 0)) dX9_linkedField_53 kI_0 ?_
        exact (S_lv (lv0 := [some (.ref r0), some (.int v1), none, some (.int x_37)]) (And.intro rfl (And.intro rfl (And.intro rfl trivial))) (sX9_linkedField_54 r0 v1 x_37 (nI 0)))
      · refine S_iconst (pc := 49) (v := (nI 1)) dX9_linkedField_49 kI_1 ?_
        refine S_goto (pc := 50) (tgt := 54) dX9_linkedField_50 (by decide) ?_
        exact (S_lv (lv0 := [some (.ref r0), some (.int v1), none, some (.int x_37)]) (And.intro rfl (And.intro rfl (And.intro rfl trivial))) (sX9_linkedField_54 r0 v1 x_37 (nI 1)))
    · refine S_iconst (pc := 38) (v := (nI 2)) dX9_linkedField_38 kI_2 ?_
      exact S_iret (pc := 39) ⟨rfl, rfl⟩ rfl rfl dX9_linkedField_39
  · refine S_iconst (pc := 27) (v := (nI 3)) dX9_linkedField_27 kI_3 ?_
    exact S_iret (pc := 28) ⟨rfl, rfl⟩ rfl rfl dX9_linkedField_28
theorem ktX9_linkedField (r0 : Nat) (v1 : Int32) (v2 : Int32) : Ct mX9_linkedField rI [.ref r0, .int v1, .int v2] (fX9_linkedField r0 v1 v2) := Ct.of (z := 1) pn_X9 rfl rfl rfl (sX9_linkedField r0 v1 v2)
def mX9_interfaceMethod : MI := (yX9_interfaceMethod, cX9_interfaceMethod, 3, (some .int), { frames := 6, cells := 0, slots := 0, locals := 148 }, [])
theorem mw_X9_interfaceMethod : MW mX9_interfaceMethod 2 := ⟨w1564, w11, ⟨by decide, by decide⟩, by decide +kernel⟩
theorem mv_X9_interfaceMethod : MV mX9_interfaceMethod 9 := ⟨_, rfl, w1563, wp90⟩
def fX9_interfaceMethod  (r0 : Nat) (v1 : Int32) (v2 : Int32) : AH → Option (Int32 × AH) := fun h =>
  cv 9 r0 (fX9_supertypes r0 v1 v2) h fun x_5 h =>
  cv 9 r0 (fX9_looksAt r0 v1 (x_5 &&& (((nI 1) <<< (v2 &&& 31)) ^^^ (-1 : Int32)))) h fun _ h =>
  (gI 9 r0 13 h).bind fun x_6 =>
  if x_6 = (nI 1) then (
    (gI 9 r0 14 h).bind fun x_8 =>
    some (x_8, h))
  else
  (gI 9 r0 12 h).bind fun x_7 =>
  some (x_7, h)
theorem sX9_interfaceMethod  (r0 : Nat) (v1 : Int32) (v2 : Int32) : Sm mX9_interfaceMethod rI 0 0 0 [some (.ref r0), some (.int v1), some (.int v2)] [] (fX9_interfaceMethod r0 v1 v2) := by
  unfold fX9_interfaceMethod
  refine S_aload_n (pc := 0) dX9_interfaceMethod_0 rfl ?_
  refine S_iload_n (pc := 1) dX9_interfaceMethod_1 rfl ?_
  refine S_aload_n (pc := 2) dX9_interfaceMethod_2 rfl ?_
  refine S_iload_n (pc := 3) dX9_interfaceMethod_3 rfl ?_
  refine S_iload_n (pc := 4) dX9_interfaceMethod_4 rfl ?_
  refine Y_Vi (pc := 5) (st := [.int v1, .ref r0]) (kc' := 0) (ks' := 0) (ktX9_supertypes r0 v1 v2) mw_X9_supertypes mv_X9_supertypes w1258 (RO.mk rfl rfl rfl rfl) rfl rfl rfl dX9_interfaceMethod_5 ⟨rfl, rfl⟩ (fun x_5 => ?_)
  refine S_iconst (pc := 8) (v := (nI 1)) dX9_interfaceMethod_8 kI_1 ?_
  refine S_iload_n (pc := 9) dX9_interfaceMethod_9 rfl ?_
  refine S_ishl (pc := 10) dX9_interfaceMethod_10 ?_
  refine S_iconst (pc := 11) (v := (-1 : Int32)) dX9_interfaceMethod_11 kI_m1 ?_
  refine S_ixor (pc := 12) dX9_interfaceMethod_12 ?_
  refine S_iand (pc := 13) dX9_interfaceMethod_13 ?_
  refine Y_Vv (pc := 14) (st := []) (kc' := 0) (ks' := 0) (ktX9_looksAt r0 v1 (x_5 &&& (((nI 1) <<< (v2 &&& 31)) ^^^ (-1 : Int32)))) mw_X9_looksAt mv_X9_looksAt w1322 (RO.mk rfl rfl rfl rfl) rfl rfl rfl dX9_interfaceMethod_14 ⟨rfl, rfl⟩ ?_
  refine S_aload_n (pc := 17) dX9_interfaceMethod_17 rfl ?_
  refine S_gI (pc := 18) fl_X9_208 rfl dX9_interfaceMethod_18 (fun x_6 => ?_)
  refine S_iconst (pc := 21) (v := (nI 1)) dX9_interfaceMethod_21 kI_1 ?_
  refine S_icmpne (pc := 22) (tgt := 32) dX9_interfaceMethod_22 (by decide) ?_ ?_
  · refine S_aload_n (pc := 32) dX9_interfaceMethod_32 rfl ?_
    refine S_gI (pc := 33) fl_X9_205 rfl dX9_interfaceMethod_33 (fun x_7 => ?_)
    exact S_iret (pc := 36) ⟨rfl, rfl⟩ rfl rfl dX9_interfaceMethod_36
  · refine S_aload_n (pc := 25) dX9_interfaceMethod_25 rfl ?_
    refine S_gI (pc := 26) fl_X9_211 rfl dX9_interfaceMethod_26 (fun x_8 => ?_)
    refine S_goto (pc := 29) (tgt := 36) dX9_interfaceMethod_29 (by decide) ?_
    exact S_iret (pc := 36) ⟨rfl, rfl⟩ rfl rfl dX9_interfaceMethod_36
theorem ktX9_interfaceMethod (r0 : Nat) (v1 : Int32) (v2 : Int32) : Ct mX9_interfaceMethod rI [.ref r0, .int v1, .int v2] (fX9_interfaceMethod r0 v1 v2) := Ct.of (z := 0) pn_X9 rfl rfl rfl (sX9_interfaceMethod r0 v1 v2)
def mX9_methodOf : MI := (yX9_methodOf, cX9_methodOf, 5, (some .int), { frames := 7, cells := 0, slots := 0, locals := 170 }, [])
theorem mw_X9_methodOf : MW mX9_methodOf 2 := ⟨w1560, w11, ⟨by decide, by decide⟩, by decide +kernel⟩
theorem mv_X9_methodOf : MV mX9_methodOf 9 := ⟨_, rfl, w1559, wp89⟩
def fX9_methodOf_51  (r0 : Nat) (v1 : Int32) (v2 : Int32) (v3 : Int32) : AH → Option (Int32 × AH) := fun h =>
  if v3 = (-2 : Int32) then (
    cv 9 r0 (fX9_interfaceMethod r0 v1 v2) h fun x_11 h =>
    some (x_11, h))
  else
  some (v3, h)
def bX9_methodOf_10  (k10 : Nat → Int32 → Int32 → Int32 → Int32 → AH → Option (Int32 × AH)) (r0 : Nat) (v1 : Int32) (v2 : Int32) (v3 : Int32) (v4 : Int32) : AH → Option (Int32 × AH) := fun h =>
  if v3 = (-2 : Int32) then (
    if v4 ≤ 0 then (
      fX9_methodOf_51 r0 v1 v2 v3 h)
    else
    cv 9 r0 (fX9_isInterface r0 v1 v2) h fun x_12 h =>
    if x_12 = 0 then (
      cv 9 r0 (fX9_of r0 v1 v4 (nI 2)) h fun x_13 h =>
      cv 9 r0 (fX9_own r0 v1 x_13) h fun x_14 h =>
      k10 r0 v1 v2 x_14 x_13 h)
    else
    fX9_methodOf_51 r0 v1 v2 v3 h)
  else
  fX9_methodOf_51 r0 v1 v2 v3 h
def lX9_methodOf_10  : Nat → Nat → Int32 → Int32 → Int32 → Int32 → AH → Option (Int32 × AH)
  | 0 => fun _ _ _ _ _ _ => none
  | n + 1 => bX9_methodOf_10 (lX9_methodOf_10 n)
def fX9_methodOf  (r0 : Nat) (v1 : Int32) (v2 : Int32) : AH → Option (Int32 × AH) := fun h =>
  cv 9 r0 (fX9_own r0 v1 v2) h fun x_15 h =>
  lX9_methodOf_10 fuel r0 v1 v2 x_15 v2 h
theorem sX9_methodOf_51  (r0 : Nat) (v1 : Int32) (v2 : Int32) (v3 : Int32) : Sm mX9_methodOf rI 0 0 51 [some (.ref r0), some (.int v1), some (.int v2), some (.int v3), none] [] (fX9_methodOf_51 r0 v1 v2 v3) := by
  unfold fX9_methodOf_51
  refine S_iload_n (pc := 51) dX9_methodOf_51 rfl ?_
  refine S_bipush (pc := 52) (v := (-2 : Int32)) dX9_methodOf_52 kB_m2 ?_
  refine S_icmpeq (pc := 54) (tgt := 61) dX9_methodOf_54 (by decide) ?_ ?_
  · refine S_aload_n (pc := 61) dX9_methodOf_61 rfl ?_
    refine S_iload_n (pc := 62) dX9_methodOf_62 rfl ?_
    refine S_iload_n (pc := 63) dX9_methodOf_63 rfl ?_
    refine Y_Vi (pc := 64) (st := []) (kc' := 0) (ks' := 0) (ktX9_interfaceMethod r0 v1 v2) mw_X9_interfaceMethod mv_X9_interfaceMethod w1561 (RO.mk rfl rfl rfl rfl) rfl rfl rfl dX9_methodOf_64 ⟨rfl, rfl⟩ (fun x_11 => ?_)
    exact S_iret (pc := 67) ⟨rfl, rfl⟩ rfl rfl dX9_methodOf_67
  · refine S_iload_n (pc := 57) dX9_methodOf_57 rfl ?_
    refine S_goto (pc := 58) (tgt := 67) dX9_methodOf_58 (by decide) ?_
    exact S_iret (pc := 67) ⟨rfl, rfl⟩ rfl rfl dX9_methodOf_67
theorem sbX9_methodOf_10  {k10 : Nat → Int32 → Int32 → Int32 → Int32 → AH → Option (Int32 × AH)} (h10 : ∀ (r0 : Nat) (v1 : Int32) (v2 : Int32) (v3 : Int32) (v4 : Int32), Sm mX9_methodOf rI 0 0 10 [some (.ref r0), some (.int v1), some (.int v2), some (.int v3), some (.int v4)] [] (k10 r0 v1 v2 v3 v4)) (r0 : Nat) (v1 : Int32) (v2 : Int32) (v3 : Int32) (v4 : Int32) : Sm mX9_methodOf rI 0 0 10 [some (.ref r0), some (.int v1), some (.int v2), some (.int v3), some (.int v4)] [] (bX9_methodOf_10 k10 r0 v1 v2 v3 v4) := by
  unfold bX9_methodOf_10
  refine S_iload_n (pc := 10) dX9_methodOf_10 rfl ?_
  refine S_bipush (pc := 11) (v := (-2 : Int32)) dX9_methodOf_11 kB_m2 ?_
  refine S_icmpne (pc := 13) (tgt := 51) dX9_methodOf_13 (by decide) ?_ ?_
  · exact (S_lv (lv0 := [some (.ref r0), some (.int v1), some (.int v2), some (.int v3), none]) (And.intro rfl (And.intro rfl (And.intro rfl (And.intro rfl trivial)))) (sX9_methodOf_51 r0 v1 v2 v3))
  · refine S_iload (pc := 16) dX9_methodOf_16 rfl ?_
    refine S_ifle (pc := 18) (tgt := 51) dX9_methodOf_18 (by decide) ?_ ?_
    · exact (S_lv (lv0 := [some (.ref r0), some (.int v1), some (.int v2), some (.int v3), none]) (And.intro rfl (And.intro rfl (And.intro rfl (And.intro rfl trivial)))) (sX9_methodOf_51 r0 v1 v2 v3))
    · refine S_aload_n (pc := 21) dX9_methodOf_21 rfl ?_
      refine S_iload_n (pc := 22) dX9_methodOf_22 rfl ?_
      refine S_iload_n (pc := 23) dX9_methodOf_23 rfl ?_
      refine Y_Vi (pc := 24) (st := []) (kc' := 0) (ks' := 0) (ktX9_isInterface r0 v1 v2) mw_X9_isInterface mv_X9_isInterface w1282 (RO.mk rfl rfl rfl rfl) rfl rfl rfl dX9_methodOf_24 ⟨rfl, rfl⟩ (fun x_12 => ?_)
      refine S_ifne (pc := 27) (tgt := 51) dX9_methodOf_27 (by decide) ?_ ?_
      · exact (S_lv (lv0 := [some (.ref r0), some (.int v1), some (.int v2), some (.int v3), none]) (And.intro rfl (And.intro rfl (And.intro rfl (And.intro rfl trivial)))) (sX9_methodOf_51 r0 v1 v2 v3))
      · refine S_aload_n (pc := 30) dX9_methodOf_30 rfl ?_
        refine S_iload_n (pc := 31) dX9_methodOf_31 rfl ?_
        refine S_iload (pc := 32) dX9_methodOf_32 rfl ?_
        refine S_iconst (pc := 34) (v := (nI 2)) dX9_methodOf_34 kI_2 ?_
        refine Y_Vi (pc := 35) (st := []) (kc' := 0) (ks' := 0) (ktX9_of r0 v1 v4 (nI 2)) mw_X9_of mv_X9_of w1219 (RO.mk rfl rfl rfl rfl) rfl rfl rfl dX9_methodOf_35 ⟨rfl, rfl⟩ (fun x_13 => ?_)
        refine Z_istore (pc := 38) (lv' := [some (.ref r0), some (.int v1), some (.int v2), some (.int v3), some (.int x_13)]) dX9_methodOf_38 rfl rfl rfl ?_
        refine S_aload_n (pc := 40) dX9_methodOf_40 rfl ?_
        refine S_iload_n (pc := 41) dX9_methodOf_41 rfl ?_
        refine S_iload (pc := 42) dX9_methodOf_42 rfl ?_
        refine Y_Vi (pc := 44) (st := []) (kc' := 0) (ks' := 0) (ktX9_own r0 v1 x_13) mw_X9_own mv_X9_own w1314 (RO.mk rfl rfl rfl rfl) rfl rfl rfl dX9_methodOf_44 ⟨rfl, rfl⟩ (fun x_14 => ?_)
        refine Z_istore_n (pc := 47) (lv' := [some (.ref r0), some (.int v1), some (.int v2), some (.int x_14), some (.int x_13)]) dX9_methodOf_47 rfl rfl rfl ?_
        refine S_goto (pc := 48) (tgt := 10) dX9_methodOf_48 (by decide) ?_
        exact (h10 r0 v1 v2 x_14 x_13)
theorem sX9_methodOf_10  : ∀ (n : Nat) (r0 : Nat) (v1 : Int32) (v2 : Int32) (v3 : Int32) (v4 : Int32), Sm mX9_methodOf rI 0 0 10 [some (.ref r0), some (.int v1), some (.int v2), some (.int v3), some (.int v4)] [] (lX9_methodOf_10 n r0 v1 v2 v3 v4)
  | 0, _, _, _, _, _ => S_none
  | n + 1, r0, v1, v2, v3, v4 => sbX9_methodOf_10 (sX9_methodOf_10 n) r0 v1 v2 v3 v4
theorem sX9_methodOf  (r0 : Nat) (v1 : Int32) (v2 : Int32) : Sm mX9_methodOf rI 0 0 0 [some (.ref r0), some (.int v1), some (.int v2), none, none] [] (fX9_methodOf r0 v1 v2) := by
  unfold fX9_methodOf
  refine S_aload_n (pc := 0) dX9_methodOf_0 rfl ?_
  refine S_iload_n (pc := 1) dX9_methodOf_1 rfl ?_
  refine S_iload_n (pc := 2) dX9_methodOf_2 rfl ?_
  refine Y_Vi (pc := 3) (st := []) (kc' := 0) (ks' := 0) (ktX9_own r0 v1 v2) mw_X9_own mv_X9_own w1314 (RO.mk rfl rfl rfl rfl) rfl rfl rfl dX9_methodOf_3 ⟨rfl, rfl⟩ (fun x_15 => ?_)
  refine Z_istore_n (pc := 6) (lv' := [some (.ref r0), some (.int v1), some (.int v2), some (.int x_15), none]) dX9_methodOf_6 rfl rfl rfl ?_
  refine S_iload_n (pc := 7) dX9_methodOf_7 rfl ?_
  refine Z_istore (pc := 8) (lv' := [some (.ref r0), some (.int v1), some (.int v2), some (.int x_15), some (.int v2)]) dX9_methodOf_8 rfl rfl rfl ?_
  exact (sX9_methodOf_10 fuel r0 v1 v2 x_15 v2)
theorem ktX9_methodOf (r0 : Nat) (v1 : Int32) (v2 : Int32) : Ct mX9_methodOf rI [.ref r0, .int v1, .int v2] (fX9_methodOf r0 v1 v2) := Ct.of (z := 2) pn_X9 rfl rfl rfl (sX9_methodOf r0 v1 v2)
def mX9_selectedFor : MI := (yX9_selectedFor, cX9_selectedFor, 4, (some .int), { frames := 7, cells := 0, slots := 0, locals := 174 }, [])
theorem mw_X9_selectedFor : MW mX9_selectedFor 3 := ⟨w1572, w11, ⟨by decide, by decide⟩, by decide +kernel⟩
theorem mv_X9_selectedFor : MV mX9_selectedFor 9 := ⟨_, rfl, w1571, wp91⟩
def fX9_selectedFor_37  (r0 : Nat) (v1 : Int32) (v3 : Int32) (s0 : Nat) (s1 : Int32) (s2 : Int32) (s3 : Int32) : AH → Option (Int32 × AH) := fun h =>
  cv 9 r0 (fX9_supertypes r0 v1 v3) h fun x_9 h =>
  cv 9 s0 (fX9_selectedBy s0 s1 s2 s3 (x_9 &&& (((nI 1) <<< (v3 &&& 31)) ^^^ (-1 : Int32)))) h fun x_10 h =>
  some (x_10, h)
def fX9_selectedFor  (r0 : Nat) (v1 : Int32) (v2 : Int32) (v3 : Int32) : AH → Option (Int32 × AH) := fun h =>
  cv 9 r0 (fX9_its r0 v1 v2 (nI 3)) h fun x_11 h =>
  if x_11 = 0 then (
    some (v2, h))
  else
  cv 9 r0 (fX9_wantsLike r0 v1 v2) h fun _ h =>
  if v3 = 0 then (
    fX9_selectedFor_37 r0 v1 v3 r0 v1 v3 (-2 : Int32) h)
  else
  cv 9 r0 (fX9_of r0 v1 v3 (nI 2)) h fun x_12 h =>
  fX9_selectedFor_37 r0 v1 v3 r0 v1 v3 x_12 h
theorem sX9_selectedFor_37  (r0 : Nat) (v1 : Int32) (v3 : Int32) (s0 : Nat) (s1 : Int32) (s2 : Int32) (s3 : Int32) : Sm mX9_selectedFor rI 0 0 37 [some (.ref r0), some (.int v1), none, some (.int v3)] [.int s3, .int s2, .int s1, .ref s0] (fX9_selectedFor_37 r0 v1 v3 s0 s1 s2 s3) := by
  unfold fX9_selectedFor_37
  refine S_aload_n (pc := 37) dX9_selectedFor_37 rfl ?_
  refine S_iload_n (pc := 38) dX9_selectedFor_38 rfl ?_
  refine S_iload_n (pc := 39) dX9_selectedFor_39 rfl ?_
  refine Y_Vi (pc := 40) (st := [.int s3, .int s2, .int s1, .ref s0]) (kc' := 0) (ks' := 0) (ktX9_supertypes r0 v1 v3) mw_X9_supertypes mv_X9_supertypes w1258 (RO.mk rfl rfl rfl rfl) rfl rfl rfl dX9_selectedFor_40 ⟨rfl, rfl⟩ (fun x_9 => ?_)
  refine S_iconst (pc := 43) (v := (nI 1)) dX9_selectedFor_43 kI_1 ?_
  refine S_iload_n (pc := 44) dX9_selectedFor_44 rfl ?_
  refine S_ishl (pc := 45) dX9_selectedFor_45 ?_
  refine S_iconst (pc := 46) (v := (-1 : Int32)) dX9_selectedFor_46 kI_m1 ?_
  refine S_ixor (pc := 47) dX9_selectedFor_47 ?_
  refine S_iand (pc := 48) dX9_selectedFor_48 ?_
  refine Y_Vi (pc := 49) (st := []) (kc' := 0) (ks' := 0) (ktX9_selectedBy s0 s1 s2 s3 (x_9 &&& (((nI 1) <<< (v3 &&& 31)) ^^^ (-1 : Int32)))) mw_X9_selectedBy mv_X9_selectedBy w1310 (RO.mk rfl rfl rfl rfl) rfl rfl rfl dX9_selectedFor_49 ⟨rfl, rfl⟩ (fun x_10 => ?_)
  exact S_iret (pc := 52) ⟨rfl, rfl⟩ rfl rfl dX9_selectedFor_52
theorem sX9_selectedFor  (r0 : Nat) (v1 : Int32) (v2 : Int32) (v3 : Int32) : Sm mX9_selectedFor rI 0 0 0 [some (.ref r0), some (.int v1), some (.int v2), some (.int v3)] [] (fX9_selectedFor r0 v1 v2 v3) := by
  unfold fX9_selectedFor
  refine S_aload_n (pc := 0) dX9_selectedFor_0 rfl ?_
  refine S_iload_n (pc := 1) dX9_selectedFor_1 rfl ?_
  refine S_iload_n (pc := 2) dX9_selectedFor_2 rfl ?_
  refine S_iconst (pc := 3) (v := (nI 3)) dX9_selectedFor_3 kI_3 ?_
  refine Y_Vi (pc := 4) (st := []) (kc' := 0) (ks' := 0) (ktX9_its r0 v1 v2 (nI 3)) mw_X9_its mv_X9_its w1243 (RO.mk rfl rfl rfl rfl) rfl rfl rfl dX9_selectedFor_4 ⟨rfl, rfl⟩ (fun x_11 => ?_)
  refine S_ifne (pc := 7) (tgt := 12) dX9_selectedFor_7 (by decide) ?_ ?_
  · refine S_aload_n (pc := 12) dX9_selectedFor_12 rfl ?_
    refine S_iload_n (pc := 13) dX9_selectedFor_13 rfl ?_
    refine S_iload_n (pc := 14) dX9_selectedFor_14 rfl ?_
    refine Y_Vv (pc := 15) (st := []) (kc' := 0) (ks' := 0) (ktX9_wantsLike r0 v1 v2) mw_X9_wantsLike mv_X9_wantsLike w1302 (RO.mk rfl rfl rfl rfl) rfl rfl rfl dX9_selectedFor_15 ⟨rfl, rfl⟩ ?_
    refine S_aload_n (pc := 18) dX9_selectedFor_18 rfl ?_
    refine S_iload_n (pc := 19) dX9_selectedFor_19 rfl ?_
    refine S_iload_n (pc := 20) dX9_selectedFor_20 rfl ?_
    refine S_iload_n (pc := 21) dX9_selectedFor_21 rfl ?_
    refine S_ifne (pc := 22) (tgt := 30) dX9_selectedFor_22 (by decide) ?_ ?_
    · refine S_aload_n (pc := 30) dX9_selectedFor_30 rfl ?_
      refine S_iload_n (pc := 31) dX9_selectedFor_31 rfl ?_
      refine S_iload_n (pc := 32) dX9_selectedFor_32 rfl ?_
      refine S_iconst (pc := 33) (v := (nI 2)) dX9_selectedFor_33 kI_2 ?_
      refine Y_Vi (pc := 34) (st := [.int v3, .int v1, .ref r0]) (kc' := 0) (ks' := 0) (ktX9_of r0 v1 v3 (nI 2)) mw_X9_of mv_X9_of w1219 (RO.mk rfl rfl rfl rfl) rfl rfl rfl dX9_selectedFor_34 ⟨rfl, rfl⟩ (fun x_12 => ?_)
      exact (S_lv (lv0 := [some (.ref r0), some (.int v1), none, some (.int v3)]) (And.intro rfl (And.intro rfl (And.intro rfl trivial))) (sX9_selectedFor_37 r0 v1 v3 r0 v1 v3 x_12))
    · refine S_bipush (pc := 25) (v := (-2 : Int32)) dX9_selectedFor_25 kB_m2 ?_
      refine S_goto (pc := 27) (tgt := 37) dX9_selectedFor_27 (by decide) ?_
      exact (S_lv (lv0 := [some (.ref r0), some (.int v1), none, some (.int v3)]) (And.intro rfl (And.intro rfl (And.intro rfl trivial))) (sX9_selectedFor_37 r0 v1 v3 r0 v1 v3 (-2 : Int32)))
  · refine S_iload_n (pc := 10) dX9_selectedFor_10 rfl ?_
    exact S_iret (pc := 11) ⟨rfl, rfl⟩ rfl rfl dX9_selectedFor_11
theorem ktX9_selectedFor (r0 : Nat) (v1 : Int32) (v2 : Int32) (v3 : Int32) : Ct mX9_selectedFor rI [.ref r0, .int v1, .int v2, .int v3] (fX9_selectedFor r0 v1 v2 v3) := Ct.of (z := 0) pn_X9 rfl rfl rfl (sX9_selectedFor r0 v1 v2 v3)
def mX9_linkedCall : MI := (yX9_linkedCall, cX9_linkedCall, 5, (some .int), { frames := 8, cells := 0, slots := 0, locals := 197 }, [])
theorem mw_X9_linkedCall : MW mX9_linkedCall 2 := ⟨w1628, w11, ⟨by decide, by decide⟩, by decide +kernel⟩
theorem mv_X9_linkedCall : MV mX9_linkedCall 9 := ⟨_, rfl, w1627, wp98⟩
def fX9_linkedCall_167  (r0 : Nat) (v1 : Int32) (v3 : Int32) : AH → Option (Int32 × AH) := fun h =>
  cv 9 r0 (fX9_its r0 v1 v3 (nI 1)) h fun x_49 h =>
  (pI 9 r0 18 x_49 h).bind fun h =>
  some ((nI 0), h)
def fX9_linkedCall_97  (r0 : Nat) (v1 : Int32) (v2 : Int32) (v3 : Int32) (s0 : Int32) : AH → Option (Int32 × AH) := fun h =>
  (gP 9 r0 15 h).bind fun a_50 =>
  (ldI a_50 (nI 11) h).bind fun x_51 =>
  if s0 = x_51 then (
    cv 9 r0 (fX9_isInterface r0 v1 v2) h fun x_52 h =>
    if x_52 = 0 then (
      cv 9 r0 (fX9_of r0 v1 v2 (nI 7)) h fun x_53 h =>
      if x_53 = 0 then (
        cv 9 r0 (fX9_isStatic r0 v1 v3) h fun x_54 h =>
        if x_54 = 0 then (
          cv 9 r0 (fX9_selectedFor r0 v1 v3 v2) h fun x_55 h =>
          if x_55 = (-2 : Int32) then (
            some ((nI 6), h))
          else
          cv 9 r0 (fX9_isAbstract r0 v1 x_55) h fun x_56 h =>
          if x_56 = 0 then (
            fX9_linkedCall_167 r0 v1 v3 h)
          else
          some ((nI 6), h))
        else
        fX9_linkedCall_167 r0 v1 v3 h)
      else
      fX9_linkedCall_167 r0 v1 v3 h)
    else
    fX9_linkedCall_167 r0 v1 v3 h)
  else
  some ((nI 5), h)
def fX9_linkedCall  (r0 : Nat) (v1 : Int32) (v2 : Int32) : AH → Option (Int32 × AH) := fun h =>
  cv 9 r0 (fX9_of r0 v1 v2 (nI 1)) h fun x_57 h =>
  (gP 9 r0 15 h).bind fun a_58 =>
  (ldI a_58 (nI 15) h).bind fun x_59 =>
  if x_57 = x_59 then (
    (gP 9 r0 15 h).bind fun a_60 =>
    (ldI a_60 (nI 2) h).bind fun x_61 =>
    (gP 9 r0 15 h).bind fun a_62 =>
    (ldI a_62 (nI 10) h).bind fun x_63 =>
    (gP 9 r0 15 h).bind fun a_64 =>
    (ldI a_64 (nI 12) h).bind fun x_65 =>
    (gP 9 r0 15 h).bind fun a_66 =>
    (ldI a_66 (nI 13) h).bind fun x_67 =>
    (gP 9 r0 15 h).bind fun a_68 =>
    (ldI a_68 (nI 14) h).bind fun x_69 =>
    cv 9 r0 (fX9_wants r0 x_61 x_63 x_65 x_67 x_69) h fun _ h =>
    cv 9 r0 (fX9_methodOf r0 v1 v2) h fun x_70 h =>
    if x_70 = (-2 : Int32) then (
      some ((nI 4), h))
    else
    cv 9 r0 (fX9_isOpen r0 v1 x_70) h fun x_71 h =>
    if x_71 = 0 then (
      some ((nI 2), h))
    else
    cv 9 r0 (fX9_isStatic r0 v1 x_70) h fun x_72 h =>
    if x_72 = 0 then (
      fX9_linkedCall_97 r0 v1 v2 x_70 (nI 0) h)
    else
    fX9_linkedCall_97 r0 v1 v2 x_70 (nI 1) h)
  else
  some ((nI 5), h)
theorem sX9_linkedCall_167  (r0 : Nat) (v1 : Int32) (v3 : Int32) : Sm mX9_linkedCall rI 0 0 167 [some (.ref r0), some (.int v1), none, some (.int v3), none] [] (fX9_linkedCall_167 r0 v1 v3) := by
  unfold fX9_linkedCall_167
  refine S_aload_n (pc := 167) dX9_linkedCall_167 rfl ?_
  refine S_aload_n (pc := 168) dX9_linkedCall_168 rfl ?_
  refine S_iload_n (pc := 169) dX9_linkedCall_169 rfl ?_
  refine S_iload_n (pc := 170) dX9_linkedCall_170 rfl ?_
  refine S_iconst (pc := 171) (v := (nI 1)) dX9_linkedCall_171 kI_1 ?_
  refine Y_Vi (pc := 172) (st := [.ref r0]) (kc' := 0) (ks' := 0) (ktX9_its r0 v1 v3 (nI 1)) mw_X9_its mv_X9_its w1243 (RO.mk rfl rfl rfl rfl) rfl rfl rfl dX9_linkedCall_172 ⟨rfl, rfl⟩ (fun x_49 => ?_)
  refine S_pI (pc := 175) fl_X9_265 rfl rfl dX9_linkedCall_175 ?_
  refine S_iconst (pc := 178) (v := (nI 0)) dX9_linkedCall_178 kI_0 ?_
  exact S_iret (pc := 179) ⟨rfl, rfl⟩ rfl rfl dX9_linkedCall_179
theorem sX9_linkedCall_97  (r0 : Nat) (v1 : Int32) (v2 : Int32) (v3 : Int32) (s0 : Int32) : Sm mX9_linkedCall rI 0 0 97 [some (.ref r0), some (.int v1), some (.int v2), some (.int v3), none] [.int s0] (fX9_linkedCall_97 r0 v1 v2 v3 s0) := by
  unfold fX9_linkedCall_97
  refine S_aload_n (pc := 97) dX9_linkedCall_97 rfl ?_
  refine S_gP (pc := 98) fl_X9_22 rfl dX9_linkedCall_98 (fun a_50 => ?_)
  refine S_bipush (pc := 101) (v := (nI 11)) dX9_linkedCall_101 kB_11 ?_
  refine S_ldI (pc := 103) dX9_linkedCall_103 (fun x_51 => ?_)
  refine S_icmpeq (pc := 104) (tgt := 109) dX9_linkedCall_104 (by decide) ?_ ?_
  · refine S_aload_n (pc := 109) dX9_linkedCall_109 rfl ?_
    refine S_iload_n (pc := 110) dX9_linkedCall_110 rfl ?_
    refine S_iload_n (pc := 111) dX9_linkedCall_111 rfl ?_
    refine Y_Vi (pc := 112) (st := []) (kc' := 0) (ks' := 0) (ktX9_isInterface r0 v1 v2) mw_X9_isInterface mv_X9_isInterface w1282 (RO.mk rfl rfl rfl rfl) rfl rfl rfl dX9_linkedCall_112 ⟨rfl, rfl⟩ (fun x_52 => ?_)
    refine S_ifne (pc := 115) (tgt := 167) dX9_linkedCall_115 (by decide) ?_ ?_
    · exact (S_lv (lv0 := [some (.ref r0), some (.int v1), none, some (.int v3), none]) (And.intro rfl (And.intro rfl (And.intro rfl trivial))) (sX9_linkedCall_167 r0 v1 v3))
    · refine S_aload_n (pc := 118) dX9_linkedCall_118 rfl ?_
      refine S_iload_n (pc := 119) dX9_linkedCall_119 rfl ?_
      refine S_iload_n (pc := 120) dX9_linkedCall_120 rfl ?_
      refine S_bipush (pc := 121) (v := (nI 7)) dX9_linkedCall_121 kB_7 ?_
      refine Y_Vi (pc := 123) (st := []) (kc' := 0) (ks' := 0) (ktX9_of r0 v1 v2 (nI 7)) mw_X9_of mv_X9_of w1219 (RO.mk rfl rfl rfl rfl) rfl rfl rfl dX9_linkedCall_123 ⟨rfl, rfl⟩ (fun x_53 => ?_)
      refine S_ifne (pc := 126) (tgt := 167) dX9_linkedCall_126 (by decide) ?_ ?_
      · exact (S_lv (lv0 := [some (.ref r0), some (.int v1), none, some (.int v3), none]) (And.intro rfl (And.intro rfl (And.intro rfl trivial))) (sX9_linkedCall_167 r0 v1 v3))
      · refine S_aload_n (pc := 129) dX9_linkedCall_129 rfl ?_
        refine S_iload_n (pc := 130) dX9_linkedCall_130 rfl ?_
        refine S_iload_n (pc := 131) dX9_linkedCall_131 rfl ?_
        refine Y_Vi (pc := 132) (st := []) (kc' := 0) (ks' := 0) (ktX9_isStatic r0 v1 v3) mw_X9_isStatic mv_X9_isStatic w1266 (RO.mk rfl rfl rfl rfl) rfl rfl rfl dX9_linkedCall_132 ⟨rfl, rfl⟩ (fun x_54 => ?_)
        refine S_ifne (pc := 135) (tgt := 167) dX9_linkedCall_135 (by decide) ?_ ?_
        · exact (S_lv (lv0 := [some (.ref r0), some (.int v1), none, some (.int v3), none]) (And.intro rfl (And.intro rfl (And.intro rfl trivial))) (sX9_linkedCall_167 r0 v1 v3))
        · refine S_aload_n (pc := 138) dX9_linkedCall_138 rfl ?_
          refine S_iload_n (pc := 139) dX9_linkedCall_139 rfl ?_
          refine S_iload_n (pc := 140) dX9_linkedCall_140 rfl ?_
          refine S_iload_n (pc := 141) dX9_linkedCall_141 rfl ?_
          refine Y_Vi (pc := 142) (st := []) (kc' := 0) (ks' := 0) (ktX9_selectedFor r0 v1 v3 v2) mw_X9_selectedFor mv_X9_selectedFor w1569 (RO.mk rfl rfl rfl rfl) rfl rfl rfl dX9_linkedCall_142 ⟨rfl, rfl⟩ (fun x_55 => ?_)
          refine Z_istore (pc := 145) (lv' := [some (.ref r0), some (.int v1), some (.int v2), some (.int v3), some (.int x_55)]) dX9_linkedCall_145 rfl rfl rfl ?_
          refine S_iload (pc := 147) dX9_linkedCall_147 rfl ?_
          refine S_bipush (pc := 149) (v := (-2 : Int32)) dX9_linkedCall_149 kB_m2 ?_
          refine S_icmpeq (pc := 151) (tgt := 164) dX9_linkedCall_151 (by decide) ?_ ?_
          · refine S_bipush (pc := 164) (v := (nI 6)) dX9_linkedCall_164 kB_6 ?_
            exact S_iret (pc := 166) ⟨rfl, rfl⟩ rfl rfl dX9_linkedCall_166
          · refine S_aload_n (pc := 154) dX9_linkedCall_154 rfl ?_
            refine S_iload_n (pc := 155) dX9_linkedCall_155 rfl ?_
            refine S_iload (pc := 156) dX9_linkedCall_156 rfl ?_
            refine Y_Vi (pc := 158) (st := []) (kc' := 0) (ks' := 0) (ktX9_isAbstract r0 v1 x_55) mw_X9_isAbstract mv_X9_isAbstract w1294 (RO.mk rfl rfl rfl rfl) rfl rfl rfl dX9_linkedCall_158 ⟨rfl, rfl⟩ (fun x_56 => ?_)
            refine S_ifeq (pc := 161) (tgt := 167) dX9_linkedCall_161 (by decide) ?_ ?_
            · exact (S_lv (lv0 := [some (.ref r0), some (.int v1), none, some (.int v3), none]) (And.intro rfl (And.intro rfl (And.intro rfl trivial))) (sX9_linkedCall_167 r0 v1 v3))
            · refine S_bipush (pc := 164) (v := (nI 6)) dX9_linkedCall_164 kB_6 ?_
              exact S_iret (pc := 166) ⟨rfl, rfl⟩ rfl rfl dX9_linkedCall_166
  · refine S_iconst (pc := 107) (v := (nI 5)) dX9_linkedCall_107 kI_5 ?_
    exact S_iret (pc := 108) ⟨rfl, rfl⟩ rfl rfl dX9_linkedCall_108
theorem sX9_linkedCall  (r0 : Nat) (v1 : Int32) (v2 : Int32) : Sm mX9_linkedCall rI 0 0 0 [some (.ref r0), some (.int v1), some (.int v2), none, none] [] (fX9_linkedCall r0 v1 v2) := by
  unfold fX9_linkedCall
  refine S_aload_n (pc := 0) dX9_linkedCall_0 rfl ?_
  refine S_iload_n (pc := 1) dX9_linkedCall_1 rfl ?_
  refine S_iload_n (pc := 2) dX9_linkedCall_2 rfl ?_
  refine S_iconst (pc := 3) (v := (nI 1)) dX9_linkedCall_3 kI_1 ?_
  refine Y_Vi (pc := 4) (st := []) (kc' := 0) (ks' := 0) (ktX9_of r0 v1 v2 (nI 1)) mw_X9_of mv_X9_of w1219 (RO.mk rfl rfl rfl rfl) rfl rfl rfl dX9_linkedCall_4 ⟨rfl, rfl⟩ (fun x_57 => ?_)
  refine S_aload_n (pc := 7) dX9_linkedCall_7 rfl ?_
  refine S_gP (pc := 8) fl_X9_22 rfl dX9_linkedCall_8 (fun a_58 => ?_)
  refine S_bipush (pc := 11) (v := (nI 15)) dX9_linkedCall_11 kB_15 ?_
  refine S_ldI (pc := 13) dX9_linkedCall_13 (fun x_59 => ?_)
  refine S_icmpeq (pc := 14) (tgt := 19) dX9_linkedCall_14 (by decide) ?_ ?_
  · refine S_aload_n (pc := 19) dX9_linkedCall_19 rfl ?_
    refine S_aload_n (pc := 20) dX9_linkedCall_20 rfl ?_
    refine S_gP (pc := 21) fl_X9_22 rfl dX9_linkedCall_21 (fun a_60 => ?_)
    refine S_iconst (pc := 24) (v := (nI 2)) dX9_linkedCall_24 kI_2 ?_
    refine S_ldI (pc := 25) dX9_linkedCall_25 (fun x_61 => ?_)
    refine S_aload_n (pc := 26) dX9_linkedCall_26 rfl ?_
    refine S_gP (pc := 27) fl_X9_22 rfl dX9_linkedCall_27 (fun a_62 => ?_)
    refine S_bipush (pc := 30) (v := (nI 10)) dX9_linkedCall_30 kB_10 ?_
    refine S_ldI (pc := 32) dX9_linkedCall_32 (fun x_63 => ?_)
    refine S_aload_n (pc := 33) dX9_linkedCall_33 rfl ?_
    refine S_gP (pc := 34) fl_X9_22 rfl dX9_linkedCall_34 (fun a_64 => ?_)
    refine S_bipush (pc := 37) (v := (nI 12)) dX9_linkedCall_37 kB_12 ?_
    refine S_ldI (pc := 39) dX9_linkedCall_39 (fun x_65 => ?_)
    refine S_aload_n (pc := 40) dX9_linkedCall_40 rfl ?_
    refine S_gP (pc := 41) fl_X9_22 rfl dX9_linkedCall_41 (fun a_66 => ?_)
    refine S_bipush (pc := 44) (v := (nI 13)) dX9_linkedCall_44 kB_13 ?_
    refine S_ldI (pc := 46) dX9_linkedCall_46 (fun x_67 => ?_)
    refine S_aload_n (pc := 47) dX9_linkedCall_47 rfl ?_
    refine S_gP (pc := 48) fl_X9_22 rfl dX9_linkedCall_48 (fun a_68 => ?_)
    refine S_bipush (pc := 51) (v := (nI 14)) dX9_linkedCall_51 kB_14 ?_
    refine S_ldI (pc := 53) dX9_linkedCall_53 (fun x_69 => ?_)
    refine Y_Vv (pc := 54) (st := []) (kc' := 0) (ks' := 0) (ktX9_wants r0 x_61 x_63 x_65 x_67 x_69) mw_X9_wants mv_X9_wants w1306 (RO.mk rfl rfl rfl rfl) rfl rfl rfl dX9_linkedCall_54 ⟨rfl, rfl⟩ ?_
    refine S_aload_n (pc := 57) dX9_linkedCall_57 rfl ?_
    refine S_iload_n (pc := 58) dX9_linkedCall_58 rfl ?_
    refine S_iload_n (pc := 59) dX9_linkedCall_59 rfl ?_
    refine Y_Vi (pc := 60) (st := []) (kc' := 0) (ks' := 0) (ktX9_methodOf r0 v1 v2) mw_X9_methodOf mv_X9_methodOf w1557 (RO.mk rfl rfl rfl rfl) rfl rfl rfl dX9_linkedCall_60 ⟨rfl, rfl⟩ (fun x_70 => ?_)
    refine Z_istore_n (pc := 63) (lv' := [some (.ref r0), some (.int v1), some (.int v2), some (.int x_70), none]) dX9_linkedCall_63 rfl rfl rfl ?_
    refine S_iload_n (pc := 64) dX9_linkedCall_64 rfl ?_
    refine S_bipush (pc := 65) (v := (-2 : Int32)) dX9_linkedCall_65 kB_m2 ?_
    refine S_icmpne (pc := 67) (tgt := 72) dX9_linkedCall_67 (by decide) ?_ ?_
    · refine S_aload_n (pc := 72) dX9_linkedCall_72 rfl ?_
      refine S_iload_n (pc := 73) dX9_linkedCall_73 rfl ?_
      refine S_iload_n (pc := 74) dX9_linkedCall_74 rfl ?_
      refine Y_Vi (pc := 75) (st := []) (kc' := 0) (ks' := 0) (ktX9_isOpen r0 v1 x_70) mw_X9_isOpen mv_X9_isOpen w1254 (RO.mk rfl rfl rfl rfl) rfl rfl rfl dX9_linkedCall_75 ⟨rfl, rfl⟩ (fun x_71 => ?_)
      refine S_ifne (pc := 78) (tgt := 83) dX9_linkedCall_78 (by decide) ?_ ?_
      · refine S_aload_n (pc := 83) dX9_linkedCall_83 rfl ?_
        refine S_iload_n (pc := 84) dX9_linkedCall_84 rfl ?_
        refine S_iload_n (pc := 85) dX9_linkedCall_85 rfl ?_
        refine Y_Vi (pc := 86) (st := []) (kc' := 0) (ks' := 0) (ktX9_isStatic r0 v1 x_70) mw_X9_isStatic mv_X9_isStatic w1266 (RO.mk rfl rfl rfl rfl) rfl rfl rfl dX9_linkedCall_86 ⟨rfl, rfl⟩ (fun x_72 => ?_)
        refine S_ifeq (pc := 89) (tgt := 96) dX9_linkedCall_89 (by decide) ?_ ?_
        · refine S_iconst (pc := 96) (v := (nI 0)) dX9_linkedCall_96 kI_0 ?_
          exact (sX9_linkedCall_97 r0 v1 v2 x_70 (nI 0))
        · refine S_iconst (pc := 92) (v := (nI 1)) dX9_linkedCall_92 kI_1 ?_
          refine S_goto (pc := 93) (tgt := 97) dX9_linkedCall_93 (by decide) ?_
          exact (sX9_linkedCall_97 r0 v1 v2 x_70 (nI 1))
      · refine S_iconst (pc := 81) (v := (nI 2)) dX9_linkedCall_81 kI_2 ?_
        exact S_iret (pc := 82) ⟨rfl, rfl⟩ rfl rfl dX9_linkedCall_82
    · refine S_iconst (pc := 70) (v := (nI 4)) dX9_linkedCall_70 kI_4 ?_
      exact S_iret (pc := 71) ⟨rfl, rfl⟩ rfl rfl dX9_linkedCall_71
  · refine S_iconst (pc := 17) (v := (nI 5)) dX9_linkedCall_17 kI_5 ?_
    exact S_iret (pc := 18) ⟨rfl, rfl⟩ rfl rfl dX9_linkedCall_18
theorem ktX9_linkedCall (r0 : Nat) (v1 : Int32) (v2 : Int32) : Ct mX9_linkedCall rI [.ref r0, .int v1, .int v2] (fX9_linkedCall r0 v1 v2) := Ct.of (z := 2) pn_X9 rfl rfl rfl (sX9_linkedCall r0 v1 v2)
def mX9_linkedBase : MI := (yX9_linkedBase, cX9_linkedBase, 4, (some .int), { frames := 8, cells := 0, slots := 0, locals := 202 }, [])
theorem mw_X9_linkedBase : MW mX9_linkedBase 3 := ⟨w1632, w11, ⟨by decide, by decide⟩, by decide +kernel⟩
theorem mv_X9_linkedBase : MV mX9_linkedBase 9 := ⟨_, rfl, w1631, wp99⟩
def fX9_linkedBase  (r0 : Nat) (v1 : Int32) (v2 : Int32) (v3 : Int32) : AH → Option (Int32 × AH) := fun h =>
  cv 9 r0 (fX9_isClass r0 v1 v3) h fun x_6 h =>
  if x_6 = 0 then (
    some ((nI 1), h))
  else
  cv 9 r0 (fX9_isOpenClass r0 v1 v3) h fun x_7 h =>
  if x_7 = 0 then (
    some ((nI 2), h))
  else
  cv 9 r0 (fX9_isInterface r0 v1 v3) h fun x_8 h =>
  if x_8 = 0 then (
    cv 9 r0 (fX9_of r0 v1 v3 (nI 6)) h fun x_9 h =>
    if x_9 = (nI 1) then (
      some ((nI 5), h))
    else
    cv 9 r0 (fX9_isIncomplete r0 v1 v2 v3) h fun x_10 h =>
    if x_10 = 0 then (
      some ((nI 0), h))
    else
    some ((nI 6), h))
  else
  some ((nI 5), h)
theorem sX9_linkedBase  (r0 : Nat) (v1 : Int32) (v2 : Int32) (v3 : Int32) : Sm mX9_linkedBase rI 0 0 0 [some (.ref r0), some (.int v1), some (.int v2), some (.int v3)] [] (fX9_linkedBase r0 v1 v2 v3) := by
  unfold fX9_linkedBase
  refine S_aload_n (pc := 0) dX9_linkedBase_0 rfl ?_
  refine S_iload_n (pc := 1) dX9_linkedBase_1 rfl ?_
  refine S_iload_n (pc := 2) dX9_linkedBase_2 rfl ?_
  refine Y_Vi (pc := 3) (st := []) (kc' := 0) (ks' := 0) (ktX9_isClass r0 v1 v3) mw_X9_isClass mv_X9_isClass w1209 (RO.mk rfl rfl rfl rfl) rfl rfl rfl dX9_linkedBase_3 ⟨rfl, rfl⟩ (fun x_6 => ?_)
  refine S_ifne (pc := 6) (tgt := 11) dX9_linkedBase_6 (by decide) ?_ ?_
  · refine S_aload_n (pc := 11) dX9_linkedBase_11 rfl ?_
    refine S_iload_n (pc := 12) dX9_linkedBase_12 rfl ?_
    refine S_iload_n (pc := 13) dX9_linkedBase_13 rfl ?_
    refine Y_Vi (pc := 14) (st := []) (kc' := 0) (ks' := 0) (ktX9_isOpenClass r0 v1 v3) mw_X9_isOpenClass mv_X9_isOpenClass w1223 (RO.mk rfl rfl rfl rfl) rfl rfl rfl dX9_linkedBase_14 ⟨rfl, rfl⟩ (fun x_7 => ?_)
    refine S_ifne (pc := 17) (tgt := 22) dX9_linkedBase_17 (by decide) ?_ ?_
    · refine S_aload_n (pc := 22) dX9_linkedBase_22 rfl ?_
      refine S_iload_n (pc := 23) dX9_linkedBase_23 rfl ?_
      refine S_iload_n (pc := 24) dX9_linkedBase_24 rfl ?_
      refine Y_Vi (pc := 25) (st := []) (kc' := 0) (ks' := 0) (ktX9_isInterface r0 v1 v3) mw_X9_isInterface mv_X9_isInterface w1282 (RO.mk rfl rfl rfl rfl) rfl rfl rfl dX9_linkedBase_25 ⟨rfl, rfl⟩ (fun x_8 => ?_)
      refine S_ifne (pc := 28) (tgt := 43) dX9_linkedBase_28 (by decide) ?_ ?_
      · refine S_iconst (pc := 43) (v := (nI 5)) dX9_linkedBase_43 kI_5 ?_
        refine S_goto (pc := 44) (tgt := 63) dX9_linkedBase_44 (by decide) ?_
        exact S_iret (pc := 63) ⟨rfl, rfl⟩ rfl rfl dX9_linkedBase_63
      · refine S_aload_n (pc := 31) dX9_linkedBase_31 rfl ?_
        refine S_iload_n (pc := 32) dX9_linkedBase_32 rfl ?_
        refine S_iload_n (pc := 33) dX9_linkedBase_33 rfl ?_
        refine S_bipush (pc := 34) (v := (nI 6)) dX9_linkedBase_34 kB_6 ?_
        refine Y_Vi (pc := 36) (st := []) (kc' := 0) (ks' := 0) (ktX9_of r0 v1 v3 (nI 6)) mw_X9_of mv_X9_of w1219 (RO.mk rfl rfl rfl rfl) rfl rfl rfl dX9_linkedBase_36 ⟨rfl, rfl⟩ (fun x_9 => ?_)
        refine S_iconst (pc := 39) (v := (nI 1)) dX9_linkedBase_39 kI_1 ?_
        refine S_icmpne (pc := 40) (tgt := 47) dX9_linkedBase_40 (by decide) ?_ ?_
        · refine S_aload_n (pc := 47) dX9_linkedBase_47 rfl ?_
          refine S_iload_n (pc := 48) dX9_linkedBase_48 rfl ?_
          refine S_iload_n (pc := 49) dX9_linkedBase_49 rfl ?_
          refine S_iload_n (pc := 50) dX9_linkedBase_50 rfl ?_
          refine Y_Vi (pc := 51) (st := []) (kc' := 0) (ks' := 0) (ktX9_isIncomplete r0 v1 v2 v3) mw_X9_isIncomplete mv_X9_isIncomplete w1298 (RO.mk rfl rfl rfl rfl) rfl rfl rfl dX9_linkedBase_51 ⟨rfl, rfl⟩ (fun x_10 => ?_)
          refine S_ifeq (pc := 54) (tgt := 62) dX9_linkedBase_54 (by decide) ?_ ?_
          · refine S_iconst (pc := 62) (v := (nI 0)) dX9_linkedBase_62 kI_0 ?_
            exact S_iret (pc := 63) ⟨rfl, rfl⟩ rfl rfl dX9_linkedBase_63
          · refine S_bipush (pc := 57) (v := (nI 6)) dX9_linkedBase_57 kB_6 ?_
            refine S_goto (pc := 59) (tgt := 63) dX9_linkedBase_59 (by decide) ?_
            exact S_iret (pc := 63) ⟨rfl, rfl⟩ rfl rfl dX9_linkedBase_63
        · refine S_iconst (pc := 43) (v := (nI 5)) dX9_linkedBase_43 kI_5 ?_
          refine S_goto (pc := 44) (tgt := 63) dX9_linkedBase_44 (by decide) ?_
          exact S_iret (pc := 63) ⟨rfl, rfl⟩ rfl rfl dX9_linkedBase_63
    · refine S_iconst (pc := 20) (v := (nI 2)) dX9_linkedBase_20 kI_2 ?_
      exact S_iret (pc := 21) ⟨rfl, rfl⟩ rfl rfl dX9_linkedBase_21
  · refine S_iconst (pc := 9) (v := (nI 1)) dX9_linkedBase_9 kI_1 ?_
    exact S_iret (pc := 10) ⟨rfl, rfl⟩ rfl rfl dX9_linkedBase_10
theorem ktX9_linkedBase (r0 : Nat) (v1 : Int32) (v2 : Int32) (v3 : Int32) : Ct mX9_linkedBase rI [.ref r0, .int v1, .int v2, .int v3] (fX9_linkedBase r0 v1 v2 v3) := Ct.of (z := 0) pn_X9 rfl rfl rfl (sX9_linkedBase r0 v1 v2 v3)
def mX9_linked : MI := (yX9_linked, cX9_linked, 3, (some .int), { frames := 9, cells := 0, slots := 0, locals := 225 }, [])
theorem mw_X9_linked : MW mX9_linked 1 := ⟨w1620, w11, ⟨by decide, by decide⟩, by decide +kernel⟩
theorem mv_X9_linked : MV mX9_linked 9 := ⟨_, rfl, w1619, wp96⟩
def fX9_linked  (r0 : Nat) (v1 : Int32) : AH → Option (Int32 × AH) := fun h =>
  (pI 9 r0 18 (-2 : Int32) h).bind fun h =>
  (gP 9 r0 15 h).bind fun a_20 =>
  (ldI a_20 (nI 8) h).bind fun x_21 =>
  if x_21 = (nI 1) then (
    some ((nI 0), h))
  else
  (gP 9 r0 15 h).bind fun a_22 =>
  (ldI a_22 (nI 1) h).bind fun x_23 =>
  cv 9 r0 (fX9_isClass r0 v1 x_23) h fun x_24 h =>
  if x_24 = 0 then (
    some ((nI 1), h))
  else
  cv 9 r0 (fX9_isOpenClass r0 v1 x_23) h fun x_25 h =>
  if x_25 = 0 then (
    some ((nI 2), h))
  else
  (gP 9 r0 15 h).bind fun a_26 =>
  (ldI a_26 (nI 0) h).bind fun x_27 =>
  if x_27 = (nI 0) then (
    cv 9 r0 (fX9_linkedField r0 v1 x_23) h fun x_28 h =>
    some (x_28, h))
  else
  if x_27 = (nI 1) then (
    cv 9 r0 (fX9_linkedField r0 v1 x_23) h fun x_29 h =>
    some (x_29, h))
  else
  if x_27 = (nI 2) then (
    cv 9 r0 (fX9_linkedCall r0 v1 x_23) h fun x_30 h =>
    some (x_30, h))
  else
  if x_27 = (nI 3) then (
    cv 9 r0 (fX9_of r0 v1 x_23 (nI 7)) h fun x_31 h =>
    if x_31 = (nI 1) then (
      some ((nI 7), h))
    else
    some ((nI 0), h))
  else
  if x_27 = (nI 4) then (
    cv 9 r0 (fX9_isInterface r0 v1 x_23) h fun x_32 h =>
    if x_32 = 0 then (
      cv 9 r0 (fX9_of r0 v1 x_23 (nI 6)) h fun x_33 h =>
      if x_33 = (nI 1) then (
        some ((nI 5), h))
      else
      cv 9 r0 (fX9_isIncomplete r0 v1 x_23 (-2 : Int32)) h fun x_34 h =>
      if x_34 = 0 then (
        some ((nI 0), h))
      else
      some ((nI 6), h))
    else
    some ((nI 5), h))
  else
  cv 9 r0 (fX9_isInterface r0 v1 x_23) h fun x_35 h =>
  if x_35 = 0 then (
    some ((nI 5), h))
  else
  (gP 9 r0 15 h).bind fun a_36 =>
  (ldI a_36 (nI 4) h).bind fun x_37 =>
  cv 9 r0 (fX9_linkedBase r0 v1 x_23 x_37) h fun x_38 h =>
  some (x_38, h)
theorem sX9_linked  (r0 : Nat) (v1 : Int32) : Sm mX9_linked rI 0 0 0 [some (.ref r0), some (.int v1), none] [] (fX9_linked r0 v1) := by
  unfold fX9_linked
  refine S_aload_n (pc := 0) dX9_linked_0 rfl ?_
  refine S_bipush (pc := 1) (v := (-2 : Int32)) dX9_linked_1 kB_m2 ?_
  refine S_pI (pc := 3) fl_X9_265 rfl rfl dX9_linked_3 ?_
  refine S_aload_n (pc := 6) dX9_linked_6 rfl ?_
  refine S_gP (pc := 7) fl_X9_22 rfl dX9_linked_7 (fun a_20 => ?_)
  refine S_bipush (pc := 10) (v := (nI 8)) dX9_linked_10 kB_8 ?_
  refine S_ldI (pc := 12) dX9_linked_12 (fun x_21 => ?_)
  refine S_iconst (pc := 13) (v := (nI 1)) dX9_linked_13 kI_1 ?_
  refine S_icmpne (pc := 14) (tgt := 19) dX9_linked_14 (by decide) ?_ ?_
  · refine S_aload_n (pc := 19) dX9_linked_19 rfl ?_
    refine S_gP (pc := 20) fl_X9_22 rfl dX9_linked_20 (fun a_22 => ?_)
    refine S_iconst (pc := 23) (v := (nI 1)) dX9_linked_23 kI_1 ?_
    refine S_ldI (pc := 24) dX9_linked_24 (fun x_23 => ?_)
    refine Z_istore_n (pc := 25) (lv' := [some (.ref r0), some (.int v1), some (.int x_23)]) dX9_linked_25 rfl rfl rfl ?_
    refine S_aload_n (pc := 26) dX9_linked_26 rfl ?_
    refine S_iload_n (pc := 27) dX9_linked_27 rfl ?_
    refine S_iload_n (pc := 28) dX9_linked_28 rfl ?_
    refine Y_Vi (pc := 29) (st := []) (kc' := 0) (ks' := 0) (ktX9_isClass r0 v1 x_23) mw_X9_isClass mv_X9_isClass w1209 (RO.mk rfl rfl rfl rfl) rfl rfl rfl dX9_linked_29 ⟨rfl, rfl⟩ (fun x_24 => ?_)
    refine S_ifne (pc := 32) (tgt := 37) dX9_linked_32 (by decide) ?_ ?_
    · refine S_aload_n (pc := 37) dX9_linked_37 rfl ?_
      refine S_iload_n (pc := 38) dX9_linked_38 rfl ?_
      refine S_iload_n (pc := 39) dX9_linked_39 rfl ?_
      refine Y_Vi (pc := 40) (st := []) (kc' := 0) (ks' := 0) (ktX9_isOpenClass r0 v1 x_23) mw_X9_isOpenClass mv_X9_isOpenClass w1223 (RO.mk rfl rfl rfl rfl) rfl rfl rfl dX9_linked_40 ⟨rfl, rfl⟩ (fun x_25 => ?_)
      refine S_ifne (pc := 43) (tgt := 48) dX9_linked_43 (by decide) ?_ ?_
      · refine S_aload_n (pc := 48) dX9_linked_48 rfl ?_
        refine S_gP (pc := 49) fl_X9_22 rfl dX9_linked_49 (fun a_26 => ?_)
        refine S_iconst (pc := 52) (v := (nI 0)) dX9_linked_52 kI_0 ?_
        refine S_ldI (pc := 53) dX9_linked_53 (fun x_27 => ?_)
        refine S_case (x := x_27) (v := (nI 0)) (fun n0 => ?_) (fun n0 => ?_)
        · refine S_tsI (pc := 54) (tgt := 88) n0 dX9_linked_54 (by decide) rfl (by decide) ?_
          refine S_aload_n (pc := 88) dX9_linked_88 rfl ?_
          refine S_iload_n (pc := 89) dX9_linked_89 rfl ?_
          refine S_iload_n (pc := 90) dX9_linked_90 rfl ?_
          refine Y_Vi (pc := 91) (st := []) (kc' := 0) (ks' := 0) (ktX9_linkedField r0 v1 x_23) mw_X9_linkedField mv_X9_linkedField w1621 (RO.mk rfl rfl rfl rfl) rfl rfl rfl dX9_linked_91 ⟨rfl, rfl⟩ (fun x_28 => ?_)
          exact S_iret (pc := 94) ⟨rfl, rfl⟩ rfl rfl dX9_linked_94
        refine S_case (x := x_27) (v := (nI 1)) (fun n1 => ?_) (fun n1 => ?_)
        · refine S_tsI (pc := 54) (tgt := 88) n1 dX9_linked_54 (by decide) rfl (by decide) ?_
          refine S_aload_n (pc := 88) dX9_linked_88 rfl ?_
          refine S_iload_n (pc := 89) dX9_linked_89 rfl ?_
          refine S_iload_n (pc := 90) dX9_linked_90 rfl ?_
          refine Y_Vi (pc := 91) (st := []) (kc' := 0) (ks' := 0) (ktX9_linkedField r0 v1 x_23) mw_X9_linkedField mv_X9_linkedField w1621 (RO.mk rfl rfl rfl rfl) rfl rfl rfl dX9_linked_91 ⟨rfl, rfl⟩ (fun x_29 => ?_)
          exact S_iret (pc := 94) ⟨rfl, rfl⟩ rfl rfl dX9_linked_94
        refine S_case (x := x_27) (v := (nI 2)) (fun n2 => ?_) (fun n2 => ?_)
        · refine S_tsI (pc := 54) (tgt := 95) n2 dX9_linked_54 (by decide) rfl (by decide) ?_
          refine S_aload_n (pc := 95) dX9_linked_95 rfl ?_
          refine S_iload_n (pc := 96) dX9_linked_96 rfl ?_
          refine S_iload_n (pc := 97) dX9_linked_97 rfl ?_
          refine Y_Vi (pc := 98) (st := []) (kc' := 0) (ks' := 0) (ktX9_linkedCall r0 v1 x_23) mw_X9_linkedCall mv_X9_linkedCall w1625 (RO.mk rfl rfl rfl rfl) rfl rfl rfl dX9_linked_98 ⟨rfl, rfl⟩ (fun x_30 => ?_)
          exact S_iret (pc := 101) ⟨rfl, rfl⟩ rfl rfl dX9_linked_101
        refine S_case (x := x_27) (v := (nI 3)) (fun n3 => ?_) (fun n3 => ?_)
        · refine S_tsI (pc := 54) (tgt := 102) n3 dX9_linked_54 (by decide) rfl (by decide) ?_
          refine S_aload_n (pc := 102) dX9_linked_102 rfl ?_
          refine S_iload_n (pc := 103) dX9_linked_103 rfl ?_
          refine S_iload_n (pc := 104) dX9_linked_104 rfl ?_
          refine S_bipush (pc := 105) (v := (nI 7)) dX9_linked_105 kB_7 ?_
          refine Y_Vi (pc := 107) (st := []) (kc' := 0) (ks' := 0) (ktX9_of r0 v1 x_23 (nI 7)) mw_X9_of mv_X9_of w1219 (RO.mk rfl rfl rfl rfl) rfl rfl rfl dX9_linked_107 ⟨rfl, rfl⟩ (fun x_31 => ?_)
          refine S_iconst (pc := 110) (v := (nI 1)) dX9_linked_110 kI_1 ?_
          refine S_icmpne (pc := 111) (tgt := 119) dX9_linked_111 (by decide) ?_ ?_
          · refine S_iconst (pc := 119) (v := (nI 0)) dX9_linked_119 kI_0 ?_
            exact S_iret (pc := 120) ⟨rfl, rfl⟩ rfl rfl dX9_linked_120
          · refine S_bipush (pc := 114) (v := (nI 7)) dX9_linked_114 kB_7 ?_
            refine S_goto (pc := 116) (tgt := 120) dX9_linked_116 (by decide) ?_
            exact S_iret (pc := 120) ⟨rfl, rfl⟩ rfl rfl dX9_linked_120
        refine S_case (x := x_27) (v := (nI 4)) (fun n4 => ?_) (fun n4 => ?_)
        · refine S_tsI (pc := 54) (tgt := 121) n4 dX9_linked_54 (by decide) rfl (by decide) ?_
          refine S_aload_n (pc := 121) dX9_linked_121 rfl ?_
          refine S_iload_n (pc := 122) dX9_linked_122 rfl ?_
          refine S_iload_n (pc := 123) dX9_linked_123 rfl ?_
          refine Y_Vi (pc := 124) (st := []) (kc' := 0) (ks' := 0) (ktX9_isInterface r0 v1 x_23) mw_X9_isInterface mv_X9_isInterface w1282 (RO.mk rfl rfl rfl rfl) rfl rfl rfl dX9_linked_124 ⟨rfl, rfl⟩ (fun x_32 => ?_)
          refine S_ifne (pc := 127) (tgt := 142) dX9_linked_127 (by decide) ?_ ?_
          · refine S_iconst (pc := 142) (v := (nI 5)) dX9_linked_142 kI_5 ?_
            refine S_goto (pc := 143) (tgt := 163) dX9_linked_143 (by decide) ?_
            exact S_iret (pc := 163) ⟨rfl, rfl⟩ rfl rfl dX9_linked_163
          · refine S_aload_n (pc := 130) dX9_linked_130 rfl ?_
            refine S_iload_n (pc := 131) dX9_linked_131 rfl ?_
            refine S_iload_n (pc := 132) dX9_linked_132 rfl ?_
            refine S_bipush (pc := 133) (v := (nI 6)) dX9_linked_133 kB_6 ?_
            refine Y_Vi (pc := 135) (st := []) (kc' := 0) (ks' := 0) (ktX9_of r0 v1 x_23 (nI 6)) mw_X9_of mv_X9_of w1219 (RO.mk rfl rfl rfl rfl) rfl rfl rfl dX9_linked_135 ⟨rfl, rfl⟩ (fun x_33 => ?_)
            refine S_iconst (pc := 138) (v := (nI 1)) dX9_linked_138 kI_1 ?_
            refine S_icmpne (pc := 139) (tgt := 146) dX9_linked_139 (by decide) ?_ ?_
            · refine S_aload_n (pc := 146) dX9_linked_146 rfl ?_
              refine S_iload_n (pc := 147) dX9_linked_147 rfl ?_
              refine S_iload_n (pc := 148) dX9_linked_148 rfl ?_
              refine S_bipush (pc := 149) (v := (-2 : Int32)) dX9_linked_149 kB_m2 ?_
              refine Y_Vi (pc := 151) (st := []) (kc' := 0) (ks' := 0) (ktX9_isIncomplete r0 v1 x_23 (-2 : Int32)) mw_X9_isIncomplete mv_X9_isIncomplete w1298 (RO.mk rfl rfl rfl rfl) rfl rfl rfl dX9_linked_151 ⟨rfl, rfl⟩ (fun x_34 => ?_)
              refine S_ifeq (pc := 154) (tgt := 162) dX9_linked_154 (by decide) ?_ ?_
              · refine S_iconst (pc := 162) (v := (nI 0)) dX9_linked_162 kI_0 ?_
                exact S_iret (pc := 163) ⟨rfl, rfl⟩ rfl rfl dX9_linked_163
              · refine S_bipush (pc := 157) (v := (nI 6)) dX9_linked_157 kB_6 ?_
                refine S_goto (pc := 159) (tgt := 163) dX9_linked_159 (by decide) ?_
                exact S_iret (pc := 163) ⟨rfl, rfl⟩ rfl rfl dX9_linked_163
            · refine S_iconst (pc := 142) (v := (nI 5)) dX9_linked_142 kI_5 ?_
              refine S_goto (pc := 143) (tgt := 163) dX9_linked_143 (by decide) ?_
              exact S_iret (pc := 163) ⟨rfl, rfl⟩ rfl rfl dX9_linked_163
        refine S_tsD (pc := 54) (tgt := 164) (by have n0 := lv_neT (a := 0) n0 rfl; have n1 := lv_neT (a := 1) n1 rfl; have n2 := lv_neT (a := 2) n2 rfl; have n3 := lv_neT (a := 3) n3 rfl; have n4 := lv_neT (a := 4) n4 rfl; omega) dX9_linked_54 (by decide) ?_
        refine S_aload_n (pc := 164) dX9_linked_164 rfl ?_
        refine S_iload_n (pc := 165) dX9_linked_165 rfl ?_
        refine S_iload_n (pc := 166) dX9_linked_166 rfl ?_
        refine Y_Vi (pc := 167) (st := []) (kc' := 0) (ks' := 0) (ktX9_isInterface r0 v1 x_23) mw_X9_isInterface mv_X9_isInterface w1282 (RO.mk rfl rfl rfl rfl) rfl rfl rfl dX9_linked_167 ⟨rfl, rfl⟩ (fun x_35 => ?_)
        refine S_ifne (pc := 170) (tgt := 177) dX9_linked_170 (by decide) ?_ ?_
        · refine S_aload_n (pc := 177) dX9_linked_177 rfl ?_
          refine S_iload_n (pc := 178) dX9_linked_178 rfl ?_
          refine S_iload_n (pc := 179) dX9_linked_179 rfl ?_
          refine S_aload_n (pc := 180) dX9_linked_180 rfl ?_
          refine S_gP (pc := 181) fl_X9_22 rfl dX9_linked_181 (fun a_36 => ?_)
          refine S_iconst (pc := 184) (v := (nI 4)) dX9_linked_184 kI_4 ?_
          refine S_ldI (pc := 185) dX9_linked_185 (fun x_37 => ?_)
          refine Y_Vi (pc := 186) (st := []) (kc' := 0) (ks' := 0) (ktX9_linkedBase r0 v1 x_23 x_37) mw_X9_linkedBase mv_X9_linkedBase w1629 (RO.mk rfl rfl rfl rfl) rfl rfl rfl dX9_linked_186 ⟨rfl, rfl⟩ (fun x_38 => ?_)
          exact S_iret (pc := 189) ⟨rfl, rfl⟩ rfl rfl dX9_linked_189
        · refine S_iconst (pc := 173) (v := (nI 5)) dX9_linked_173 kI_5 ?_
          refine S_goto (pc := 174) (tgt := 189) dX9_linked_174 (by decide) ?_
          exact S_iret (pc := 189) ⟨rfl, rfl⟩ rfl rfl dX9_linked_189
      · refine S_iconst (pc := 46) (v := (nI 2)) dX9_linked_46 kI_2 ?_
        exact S_iret (pc := 47) ⟨rfl, rfl⟩ rfl rfl dX9_linked_47
    · refine S_iconst (pc := 35) (v := (nI 1)) dX9_linked_35 kI_1 ?_
      exact S_iret (pc := 36) ⟨rfl, rfl⟩ rfl rfl dX9_linked_36
  · refine S_iconst (pc := 17) (v := (nI 0)) dX9_linked_17 kI_0 ?_
    exact S_iret (pc := 18) ⟨rfl, rfl⟩ rfl rfl dX9_linked_18
theorem ktX9_linked (r0 : Nat) (v1 : Int32) : Ct mX9_linked rI [.ref r0, .int v1] (fX9_linked r0 v1) := Ct.of (z := 1) pn_X9 rfl rfl rfl (sX9_linked r0 v1)
def mX9_isOther : MI := (yX9_isOther, cX9_isOther, 3, (some .boolean), { frames := 0, cells := 0, slots := 0, locals := 0 }, [])
theorem mw_X9_isOther : MW mX9_isOther 0 := ⟨w1648, w11, ⟨by decide, by decide⟩, by decide +kernel⟩
theorem mv_X9_isOther : MV mX9_isOther 9 := ⟨_, rfl, w1647, wp101⟩
def fX9_isOther_37 (k4 : Nat → Int32 → Int32 → AH → Option (Int32 × AH)) (r0 : Nat) (v2 : Int32) (s0 : Int32) : AH → Option (Int32 × AH) := fun h =>
  k4 r0 s0 (v2 + (nI 1)) h
def bX9_isOther_4  (k4 : Nat → Int32 → Int32 → AH → Option (Int32 × AH)) (r0 : Nat) (v1 : Int32) (v2 : Int32) : AH → Option (Int32 × AH) := fun h =>
  if (nI 8) ≤ v2 then (
    rz v1 v1 h)
  else
  if v1 = 0 then (
    (gP 9 r0 16 h).bind fun a_9 =>
    (ldI a_9 v2 h).bind fun x_10 =>
    (gP 9 r0 15 h).bind fun a_11 =>
    (ldI a_11 ((nI 8) + v2) h).bind fun x_12 =>
    if x_10 = x_12 then (
      fX9_isOther_37 k4 r0 v2 (nI 0) h)
    else
    fX9_isOther_37 k4 r0 v2 (nI 1) h)
  else
  fX9_isOther_37 k4 r0 v2 (nI 1) h
def lX9_isOther_4  : Nat → Nat → Int32 → Int32 → AH → Option (Int32 × AH)
  | 0 => fun _ _ _ _ => none
  | n + 1 => bX9_isOther_4 (lX9_isOther_4 n)
def fX9_isOther  (r0 : Nat) : AH → Option (Int32 × AH) := fun h =>
  lX9_isOther_4 fuel r0 (nI 0) (nI 0) h
theorem sX9_isOther_37 {k4 : Nat → Int32 → Int32 → AH → Option (Int32 × AH)} (h4 : ∀ (r0 : Nat) (v1 : Int32) (v2 : Int32), Sm mX9_isOther rI 0 0 4 [some (.ref r0), some (.int v1), some (.int v2)] [] (k4 r0 v1 v2)) (r0 : Nat) (v2 : Int32) (s0 : Int32) : Sm mX9_isOther rI 0 0 37 [some (.ref r0), none, some (.int v2)] [.int s0] (fX9_isOther_37 k4 r0 v2 s0) := by
  unfold fX9_isOther_37
  refine Z_istore_n (pc := 37) (lv' := [some (.ref r0), some (.int s0), some (.int v2)]) dX9_isOther_37 rfl rfl rfl ?_
  refine Z_iinc (pc := 38) (v := (nI 1)) (lv' := [some (.ref r0), some (.int s0), some (.int (v2 + (nI 1)))]) dX9_isOther_38 rfl kI_1 rfl rfl rfl ?_
  refine S_goto (pc := 41) (tgt := 4) dX9_isOther_41 (by decide) ?_
  exact (h4 r0 s0 (v2 + (nI 1)))
theorem sbX9_isOther_4  {k4 : Nat → Int32 → Int32 → AH → Option (Int32 × AH)} (h4 : ∀ (r0 : Nat) (v1 : Int32) (v2 : Int32), Sm mX9_isOther rI 0 0 4 [some (.ref r0), some (.int v1), some (.int v2)] [] (k4 r0 v1 v2)) (r0 : Nat) (v1 : Int32) (v2 : Int32) : Sm mX9_isOther rI 0 0 4 [some (.ref r0), some (.int v1), some (.int v2)] [] (bX9_isOther_4 k4 r0 v1 v2) := by
  unfold bX9_isOther_4
  refine S_iload_n (pc := 4) dX9_isOther_4 rfl ?_
  refine S_bipush (pc := 5) (v := (nI 8)) dX9_isOther_5 kB_8 ?_
  refine S_icmpge (pc := 7) (tgt := 44) dX9_isOther_7 (by decide) ?_ ?_
  · refine S_iload_n (pc := 44) dX9_isOther_44 rfl ?_
    exact S_zret (pc := 45) ⟨rfl, rfl⟩ rfl rfl dX9_isOther_45
  · refine S_iload_n (pc := 10) dX9_isOther_10 rfl ?_
    refine S_ifne (pc := 11) (tgt := 32) dX9_isOther_11 (by decide) ?_ ?_
    · refine S_iconst (pc := 32) (v := (nI 1)) dX9_isOther_32 kI_1 ?_
      refine S_goto (pc := 33) (tgt := 37) dX9_isOther_33 (by decide) ?_
      exact (S_lv (lv0 := [some (.ref r0), none, some (.int v2)]) (And.intro rfl (And.intro rfl trivial)) (sX9_isOther_37 h4 r0 v2 (nI 1)))
    · refine S_aload_n (pc := 14) dX9_isOther_14 rfl ?_
      refine S_gP (pc := 15) fl_X9_25 rfl dX9_isOther_15 (fun a_9 => ?_)
      refine S_iload_n (pc := 18) dX9_isOther_18 rfl ?_
      refine S_ldI (pc := 19) dX9_isOther_19 (fun x_10 => ?_)
      refine S_aload_n (pc := 20) dX9_isOther_20 rfl ?_
      refine S_gP (pc := 21) fl_X9_22 rfl dX9_isOther_21 (fun a_11 => ?_)
      refine S_bipush (pc := 24) (v := (nI 8)) dX9_isOther_24 kB_8 ?_
      refine S_iload_n (pc := 26) dX9_isOther_26 rfl ?_
      refine S_iadd (pc := 27) dX9_isOther_27 ?_
      refine S_ldI (pc := 28) dX9_isOther_28 (fun x_12 => ?_)
      refine S_icmpeq (pc := 29) (tgt := 36) dX9_isOther_29 (by decide) ?_ ?_
      · refine S_iconst (pc := 36) (v := (nI 0)) dX9_isOther_36 kI_0 ?_
        exact (S_lv (lv0 := [some (.ref r0), none, some (.int v2)]) (And.intro rfl (And.intro rfl trivial)) (sX9_isOther_37 h4 r0 v2 (nI 0)))
      · refine S_iconst (pc := 32) (v := (nI 1)) dX9_isOther_32 kI_1 ?_
        refine S_goto (pc := 33) (tgt := 37) dX9_isOther_33 (by decide) ?_
        exact (S_lv (lv0 := [some (.ref r0), none, some (.int v2)]) (And.intro rfl (And.intro rfl trivial)) (sX9_isOther_37 h4 r0 v2 (nI 1)))
theorem sX9_isOther_4  : ∀ (n : Nat) (r0 : Nat) (v1 : Int32) (v2 : Int32), Sm mX9_isOther rI 0 0 4 [some (.ref r0), some (.int v1), some (.int v2)] [] (lX9_isOther_4 n r0 v1 v2)
  | 0, _, _, _ => S_none
  | n + 1, r0, v1, v2 => sbX9_isOther_4 (sX9_isOther_4 n) r0 v1 v2
theorem sX9_isOther  (r0 : Nat) : Sm mX9_isOther rI 0 0 0 [some (.ref r0), none, none] [] (fX9_isOther r0) := by
  unfold fX9_isOther
  refine S_iconst (pc := 0) (v := (nI 0)) dX9_isOther_0 kI_0 ?_
  refine Z_istore_n (pc := 1) (lv' := [some (.ref r0), some (.int (nI 0)), none]) dX9_isOther_1 rfl rfl rfl ?_
  refine S_iconst (pc := 2) (v := (nI 0)) dX9_isOther_2 kI_0 ?_
  refine Z_istore_n (pc := 3) (lv' := [some (.ref r0), some (.int (nI 0)), some (.int (nI 0))]) dX9_isOther_3 rfl rfl rfl ?_
  exact (sX9_isOther_4 fuel r0 (nI 0) (nI 0))
theorem ktX9_isOther (r0 : Nat) : Ct mX9_isOther rI [.ref r0] (fX9_isOther r0) := Ct.of (z := 2) pn_X9 rfl rfl rfl (sX9_isOther r0)
def mX9_judged : MI := (yX9_judged, cX9_judged, 3, (some .int), { frames := 10, cells := 0, slots := 0, locals := 247 }, [])
theorem mw_X9_judged : MW mX9_judged 0 := ⟨w1644, w11, ⟨by decide, by decide⟩, by decide +kernel⟩
theorem mv_X9_judged : MV mX9_judged 9 := ⟨_, rfl, w1643, wp100⟩
def fX9_judged  (r0 : Nat) : AH → Option (Int32 × AH) := fun h =>
  cv 9 r0 (fX9_linked r0 (nI 1)) h fun x_7 h =>
  (gI 9 r0 18 h).bind fun x_8 =>
  if x_7 ≤ 0 then (
    cv 9 r0 (fX9_compiled r0 (nI 1)) h fun x_9 h =>
    if x_9 ≤ 0 then (
      cv 9 r0 (fX9_isOther r0) h fun x_10 h =>
      if x_10 = 0 then (
        cv 9 r0 (fX9_linked r0 (nI 0)) h fun x_11 h =>
        if 0 < x_11 then (
          some ((nI 5), h))
        else
        (gI 9 r0 18 h).bind fun x_12 =>
        if x_12 = x_8 then (
          some ((nI 0), h))
        else
        some ((nI 5), h))
      else
      some ((nI 4), h))
    else
    some ((nI 3), h))
  else
  if x_7 = (nI 6) then (
    some ((nI 2), h))
  else
  some ((nI 1), h)
theorem sX9_judged  (r0 : Nat) : Sm mX9_judged rI 0 0 0 [some (.ref r0), none, none] [] (fX9_judged r0) := by
  unfold fX9_judged
  refine S_aload_n (pc := 0) dX9_judged_0 rfl ?_
  refine S_iconst (pc := 1) (v := (nI 1)) dX9_judged_1 kI_1 ?_
  refine Y_Vi (pc := 2) (st := []) (kc' := 0) (ks' := 0) (ktX9_linked r0 (nI 1)) mw_X9_linked mv_X9_linked w1617 (RO.mk rfl rfl rfl rfl) rfl rfl rfl dX9_judged_2 ⟨rfl, rfl⟩ (fun x_7 => ?_)
  refine Z_istore_n (pc := 5) (lv' := [some (.ref r0), some (.int x_7), none]) dX9_judged_5 rfl rfl rfl ?_
  refine S_aload_n (pc := 6) dX9_judged_6 rfl ?_
  refine S_gI (pc := 7) fl_X9_265 rfl dX9_judged_7 (fun x_8 => ?_)
  refine Z_istore_n (pc := 10) (lv' := [some (.ref r0), some (.int x_7), some (.int x_8)]) dX9_judged_10 rfl rfl rfl ?_
  refine S_iload_n (pc := 11) dX9_judged_11 rfl ?_
  refine S_ifle (pc := 12) (tgt := 27) dX9_judged_12 (by decide) ?_ ?_
  · refine S_aload_n (pc := 27) dX9_judged_27 rfl ?_
    refine S_iconst (pc := 28) (v := (nI 1)) dX9_judged_28 kI_1 ?_
    refine Y_Vi (pc := 29) (st := []) (kc' := 0) (ks' := 0) (ktX9_compiled r0 (nI 1)) mw_X9_compiled mv_X9_compiled w1201 (RO.mk rfl rfl rfl rfl) rfl rfl rfl dX9_judged_29 ⟨rfl, rfl⟩ (fun x_9 => ?_)
    refine S_ifle (pc := 32) (tgt := 37) dX9_judged_32 (by decide) ?_ ?_
    · refine S_aload_n (pc := 37) dX9_judged_37 rfl ?_
      refine Y_Vi (pc := 38) (st := []) (kc' := 0) (ks' := 0) (ktX9_isOther r0) mw_X9_isOther mv_X9_isOther w1645 (RO.mk rfl rfl rfl rfl) rfl rfl rfl dX9_judged_38 ⟨rfl, rfl⟩ (fun x_10 => ?_)
      refine S_ifeq (pc := 41) (tgt := 46) dX9_judged_41 (by decide) ?_ ?_
      · refine S_aload_n (pc := 46) dX9_judged_46 rfl ?_
        refine S_iconst (pc := 47) (v := (nI 0)) dX9_judged_47 kI_0 ?_
        refine Y_Vi (pc := 48) (st := []) (kc' := 0) (ks' := 0) (ktX9_linked r0 (nI 0)) mw_X9_linked mv_X9_linked w1617 (RO.mk rfl rfl rfl rfl) rfl rfl rfl dX9_judged_48 ⟨rfl, rfl⟩ (fun x_11 => ?_)
        refine S_ifgt (pc := 51) (tgt := 62) dX9_judged_51 (by decide) ?_ ?_
        · refine S_iconst (pc := 62) (v := (nI 5)) dX9_judged_62 kI_5 ?_
          refine S_goto (pc := 63) (tgt := 67) dX9_judged_63 (by decide) ?_
          exact S_iret (pc := 67) ⟨rfl, rfl⟩ rfl rfl dX9_judged_67
        · refine S_aload_n (pc := 54) dX9_judged_54 rfl ?_
          refine S_gI (pc := 55) fl_X9_265 rfl dX9_judged_55 (fun x_12 => ?_)
          refine S_iload_n (pc := 58) dX9_judged_58 rfl ?_
          refine S_icmpeq (pc := 59) (tgt := 66) dX9_judged_59 (by decide) ?_ ?_
          · refine S_iconst (pc := 66) (v := (nI 0)) dX9_judged_66 kI_0 ?_
            exact S_iret (pc := 67) ⟨rfl, rfl⟩ rfl rfl dX9_judged_67
          · refine S_iconst (pc := 62) (v := (nI 5)) dX9_judged_62 kI_5 ?_
            refine S_goto (pc := 63) (tgt := 67) dX9_judged_63 (by decide) ?_
            exact S_iret (pc := 67) ⟨rfl, rfl⟩ rfl rfl dX9_judged_67
      · refine S_iconst (pc := 44) (v := (nI 4)) dX9_judged_44 kI_4 ?_
        exact S_iret (pc := 45) ⟨rfl, rfl⟩ rfl rfl dX9_judged_45
    · refine S_iconst (pc := 35) (v := (nI 3)) dX9_judged_35 kI_3 ?_
      exact S_iret (pc := 36) ⟨rfl, rfl⟩ rfl rfl dX9_judged_36
  · refine S_iload_n (pc := 15) dX9_judged_15 rfl ?_
    refine S_bipush (pc := 16) (v := (nI 6)) dX9_judged_16 kB_6 ?_
    refine S_icmpne (pc := 18) (tgt := 25) dX9_judged_18 (by decide) ?_ ?_
    · refine S_iconst (pc := 25) (v := (nI 1)) dX9_judged_25 kI_1 ?_
      exact S_iret (pc := 26) ⟨rfl, rfl⟩ rfl rfl dX9_judged_26
    · refine S_iconst (pc := 21) (v := (nI 2)) dX9_judged_21 kI_2 ?_
      refine S_goto (pc := 22) (tgt := 26) dX9_judged_22 (by decide) ?_
      exact S_iret (pc := 26) ⟨rfl, rfl⟩ rfl rfl dX9_judged_26
theorem ktX9_judged (r0 : Nat) : Ct mX9_judged rI [.ref r0] (fX9_judged r0) := Ct.of (z := 2) pn_X9 rfl rfl rfl (sX9_judged r0)
def mX9_checksum : MI := (yX9_checksum, cX9_checksum, 4, (some .long), { frames := 11, cells := 0, slots := 0, locals := 269 }, [])
theorem mw_X9_checksum : MW mX9_checksum 0 := ⟨w1668, w11, ⟨by decide, by decide⟩, by decide +kernel⟩
theorem mv_X9_checksum : MV mX9_checksum 9 := ⟨_, rfl, w1666, w1667⟩
def fX9_checksum_73 (k14 : Nat → Int32 → AH → Option (Int64 × AH)) (k21 : Nat → Int32 → Int32 → AH → Option (Int64 × AH)) (r0 : Nat) (v1 : Int32) (v2 : Int32) : AH → Option (Int64 × AH) := fun h =>
  k21 r0 v1 (v2 + (nI 1)) h
def bX9_checksum_49 (k14 : Nat → Int32 → AH → Option (Int64 × AH)) (k21 : Nat → Int32 → Int32 → AH → Option (Int64 × AH)) (k49 : Nat → Int32 → Int32 → Int32 → AH → Option (Int64 × AH)) (r0 : Nat) (v1 : Int32) (v2 : Int32) (v3 : Int32) : AH → Option (Int64 × AH) := fun h =>
  if (nI 10) ≤ v3 then (
    fX9_checksum_73 k14 k21 r0 v1 v2 h)
  else
  cv 9 r0 (fX9_infoOf r0 v1 v2 v3) h fun x_43 h =>
  cv 9 r0 (fX9_mix r0 (Int32.toInt64 x_43)) h fun _ h =>
  k49 r0 v1 v2 (v3 + (nI 1)) h
def lX9_checksum_49 (k14 : Nat → Int32 → AH → Option (Int64 × AH)) (k21 : Nat → Int32 → Int32 → AH → Option (Int64 × AH)) : Nat → Nat → Int32 → Int32 → Int32 → AH → Option (Int64 × AH)
  | 0 => fun _ _ _ _ _ => none
  | n + 1 => bX9_checksum_49 k14 k21 (lX9_checksum_49 k14 k21 n)
def bX9_checksum_102 (k14 : Nat → Int32 → AH → Option (Int64 × AH)) (k91 : Nat → Int32 → Int32 → AH → Option (Int64 × AH)) (k102 : Nat → Int32 → Int32 → Int32 → AH → Option (Int64 × AH)) (r0 : Nat) (v1 : Int32) (v2 : Int32) (v3 : Int32) : AH → Option (Int64 × AH) := fun h =>
  if (nI 10) ≤ v3 then (
    k91 r0 v1 (v2 + (nI 1)) h)
  else
  cv 9 r0 (fX9_toldOf r0 v1 v2 v3) h fun x_44 h =>
  cv 9 r0 (fX9_mix r0 (Int32.toInt64 x_44)) h fun _ h =>
  k102 r0 v1 v2 (v3 + (nI 1)) h
def lX9_checksum_102 (k14 : Nat → Int32 → AH → Option (Int64 × AH)) (k91 : Nat → Int32 → Int32 → AH → Option (Int64 × AH)) : Nat → Nat → Int32 → Int32 → Int32 → AH → Option (Int64 × AH)
  | 0 => fun _ _ _ _ _ => none
  | n + 1 => bX9_checksum_102 k14 k91 (lX9_checksum_102 k14 k91 n)
def bX9_checksum_91 (k14 : Nat → Int32 → AH → Option (Int64 × AH)) (k91 : Nat → Int32 → Int32 → AH → Option (Int64 × AH)) (r0 : Nat) (v1 : Int32) (v2 : Int32) : AH → Option (Int64 × AH) := fun h =>
  cv 9 r0 (fX9_memberMany r0 v1) h fun x_45 h =>
  if x_45 ≤ v2 then (
    k14 r0 (v1 + (nI 1)) h)
  else
  lX9_checksum_102 k14 k91 fuel r0 v1 v2 (nI 0) h
def lX9_checksum_91 (k14 : Nat → Int32 → AH → Option (Int64 × AH)) : Nat → Nat → Int32 → Int32 → AH → Option (Int64 × AH)
  | 0 => fun _ _ _ _ => none
  | n + 1 => bX9_checksum_91 k14 (lX9_checksum_91 k14 n)
def bX9_checksum_21 (k14 : Nat → Int32 → AH → Option (Int64 × AH)) (k21 : Nat → Int32 → Int32 → AH → Option (Int64 × AH)) (r0 : Nat) (v1 : Int32) (v2 : Int32) : AH → Option (Int64 × AH) := fun h =>
  if (nI 10) ≤ v2 then (
    cv 9 r0 (fX9_memberMany r0 v1) h fun x_46 h =>
    cv 9 r0 (fX9_mix r0 (Int32.toInt64 x_46)) h fun _ h =>
    lX9_checksum_91 k14 fuel r0 v1 (nI 0) h)
  else
  cv 9 r0 (fX9_of r0 v1 v2 (nI 0)) h fun x_47 h =>
  if x_47 = 0 then (
    cv 9 r0 (fX9_mix r0 (-3 : Int64)) h fun _ h =>
    fX9_checksum_73 k14 k21 r0 v1 v2 h)
  else
  lX9_checksum_49 k14 k21 fuel r0 v1 v2 (nI 0) h
def lX9_checksum_21 (k14 : Nat → Int32 → AH → Option (Int64 × AH)) : Nat → Nat → Int32 → Int32 → AH → Option (Int64 × AH)
  | 0 => fun _ _ _ _ => none
  | n + 1 => bX9_checksum_21 k14 (lX9_checksum_21 k14 n)
def bX9_checksum_159 (k149 : Nat → Int32 → AH → Option (Int64 × AH)) (k159 : Nat → Int32 → Int32 → AH → Option (Int64 × AH)) (r0 : Nat) (v1 : Int32) (v2 : Int32) : AH → Option (Int64 × AH) := fun h =>
  if (nI 10) ≤ v2 then (
    cv 9 r0 (fX9_takes r0 v1) h fun _ h =>
    cv 9 r0 (fX9_compiled r0 (nI 0)) h fun x_48 h =>
    cv 9 r0 (fX9_mix r0 (Int32.toInt64 x_48)) h fun _ h =>
    cv 9 r0 (fX9_compiled r0 (nI 1)) h fun x_49 h =>
    cv 9 r0 (fX9_mix r0 (Int32.toInt64 x_49)) h fun _ h =>
    cv 9 r0 (fX9_linked r0 (nI 0)) h fun x_50 h =>
    cv 9 r0 (fX9_mix r0 (Int32.toInt64 x_50)) h fun _ h =>
    (gI 9 r0 18 h).bind fun x_51 =>
    cv 9 r0 (fX9_linked r0 (nI 1)) h fun x_52 h =>
    cv 9 r0 (fX9_mix r0 (Int32.toInt64 x_52)) h fun _ h =>
    cv 9 r0 (fX9_mix r0 (Int32.toInt64 x_51)) h fun _ h =>
    (gI 9 r0 18 h).bind fun x_53 =>
    cv 9 r0 (fX9_mix r0 (Int32.toInt64 x_53)) h fun _ h =>
    cv 9 r0 (fX9_judged r0) h fun x_54 h =>
    cv 9 r0 (fX9_mix r0 (Int32.toInt64 x_54)) h fun _ h =>
    k149 r0 (v1 + (nI 1)) h)
  else
  cv 9 r0 (fX9_clientTold r0 v1 v2) h fun x_55 h =>
  cv 9 r0 (fX9_mix r0 (Int32.toInt64 x_55)) h fun _ h =>
  k159 r0 v1 (v2 + (nI 1)) h
def lX9_checksum_159 (k149 : Nat → Int32 → AH → Option (Int64 × AH)) : Nat → Nat → Int32 → Int32 → AH → Option (Int64 × AH)
  | 0 => fun _ _ _ _ => none
  | n + 1 => bX9_checksum_159 k149 (lX9_checksum_159 k149 n)
def bX9_checksum_149  (k149 : Nat → Int32 → AH → Option (Int64 × AH)) (r0 : Nat) (v1 : Int32) : AH → Option (Int64 × AH) := fun h =>
  cv 9 r0 (fX9_clientMany r0) h fun x_56 h =>
  if x_56 ≤ v1 then (
    (gP 9 r0 4 h).bind fun a_57 =>
    (ldI a_57 (nI 0) h).bind fun x_58 =>
    cv 9 r0 (fX9_mix r0 (Int32.toInt64 x_58)) h fun _ h =>
    (gP 9 r0 4 h).bind fun a_59 =>
    (ldI a_59 (nI 1) h).bind fun x_60 =>
    cv 9 r0 (fX9_mix r0 (Int32.toInt64 x_60)) h fun _ h =>
    (gI 9 r0 2 h).bind fun x_61 =>
    cv 9 r0 (fX9_mix r0 (Int32.toInt64 x_61)) h fun _ h =>
    (gJ 9 r0 19 h).bind fun y_62 =>
    some (y_62, h))
  else
  lX9_checksum_159 k149 fuel r0 v1 (nI 0) h
def lX9_checksum_149  : Nat → Nat → Int32 → AH → Option (Int64 × AH)
  | 0 => fun _ _ _ => none
  | n + 1 => bX9_checksum_149 (lX9_checksum_149 n)
def bX9_checksum_14  (k14 : Nat → Int32 → AH → Option (Int64 × AH)) (r0 : Nat) (v1 : Int32) : AH → Option (Int64 × AH) := fun h =>
  if (nI 2) ≤ v1 then (
    cv 9 r0 (fX9_clientMany r0) h fun x_63 h =>
    cv 9 r0 (fX9_mix r0 (Int32.toInt64 x_63)) h fun _ h =>
    lX9_checksum_149 fuel r0 (nI 0) h)
  else
  lX9_checksum_21 k14 fuel r0 v1 (nI 0) h
def lX9_checksum_14  : Nat → Nat → Int32 → AH → Option (Int64 × AH)
  | 0 => fun _ _ _ => none
  | n + 1 => bX9_checksum_14 (lX9_checksum_14 n)
def fX9_checksum  (r0 : Nat) : AH → Option (Int64 × AH) := fun h =>
  (pI 9 r0 3 (nI 0) h).bind fun h =>
  (pJ 9 r0 19 (17317 : Int64) h).bind fun h =>
  lX9_checksum_14 fuel r0 (nI 0) h
theorem sX9_checksum_73 {k14 : Nat → Int32 → AH → Option (Int64 × AH)} (h14 : ∀ (r0 : Nat) (v1 : Int32), Sm mX9_checksum rL 0 0 14 [some (.ref r0), some (.int v1), none, none] [] (k14 r0 v1)) {k21 : Nat → Int32 → Int32 → AH → Option (Int64 × AH)} (h21 : ∀ (r0 : Nat) (v1 : Int32) (v2 : Int32), Sm mX9_checksum rL 0 0 21 [some (.ref r0), some (.int v1), some (.int v2), none] [] (k21 r0 v1 v2)) (r0 : Nat) (v1 : Int32) (v2 : Int32) : Sm mX9_checksum rL 0 0 73 [some (.ref r0), some (.int v1), some (.int v2), none] [] (fX9_checksum_73 k14 k21 r0 v1 v2) := by
  unfold fX9_checksum_73
  refine Z_iinc (pc := 73) (v := (nI 1)) (lv' := [some (.ref r0), some (.int v1), some (.int (v2 + (nI 1))), none]) dX9_checksum_73 rfl kI_1 rfl rfl rfl ?_
  refine S_goto (pc := 76) (tgt := 21) dX9_checksum_76 (by decide) ?_
  exact (h21 r0 v1 (v2 + (nI 1)))
theorem sbX9_checksum_49 {k14 : Nat → Int32 → AH → Option (Int64 × AH)} (h14 : ∀ (r0 : Nat) (v1 : Int32), Sm mX9_checksum rL 0 0 14 [some (.ref r0), some (.int v1), none, none] [] (k14 r0 v1)) {k21 : Nat → Int32 → Int32 → AH → Option (Int64 × AH)} (h21 : ∀ (r0 : Nat) (v1 : Int32) (v2 : Int32), Sm mX9_checksum rL 0 0 21 [some (.ref r0), some (.int v1), some (.int v2), none] [] (k21 r0 v1 v2)) {k49 : Nat → Int32 → Int32 → Int32 → AH → Option (Int64 × AH)} (h49 : ∀ (r0 : Nat) (v1 : Int32) (v2 : Int32) (v3 : Int32), Sm mX9_checksum rL 0 0 49 [some (.ref r0), some (.int v1), some (.int v2), some (.int v3)] [] (k49 r0 v1 v2 v3)) (r0 : Nat) (v1 : Int32) (v2 : Int32) (v3 : Int32) : Sm mX9_checksum rL 0 0 49 [some (.ref r0), some (.int v1), some (.int v2), some (.int v3)] [] (bX9_checksum_49 k14 k21 k49 r0 v1 v2 v3) := by
  unfold bX9_checksum_49
  refine S_iload_n (pc := 49) dX9_checksum_49 rfl ?_
  refine S_bipush (pc := 50) (v := (nI 10)) dX9_checksum_50 kB_10 ?_
  refine S_icmpge (pc := 52) (tgt := 73) dX9_checksum_52 (by decide) ?_ ?_
  · exact (S_lv (lv0 := [some (.ref r0), some (.int v1), some (.int v2), none]) (And.intro rfl (And.intro rfl (And.intro rfl trivial))) (sX9_checksum_73 h14 h21 r0 v1 v2))
  · refine S_aload_n (pc := 55) dX9_checksum_55 rfl ?_
    refine S_aload_n (pc := 56) dX9_checksum_56 rfl ?_
    refine S_iload_n (pc := 57) dX9_checksum_57 rfl ?_
    refine S_iload_n (pc := 58) dX9_checksum_58 rfl ?_
    refine S_iload_n (pc := 59) dX9_checksum_59 rfl ?_
    refine Y_Vi (pc := 60) (st := [.ref r0]) (kc' := 0) (ks' := 0) (ktX9_infoOf r0 v1 v2 v3) mw_X9_infoOf mv_X9_infoOf w1478 (RO.mk rfl rfl rfl rfl) rfl rfl rfl dX9_checksum_60 ⟨rfl, rfl⟩ (fun x_43 => ?_)
    refine S_i2l (pc := 63) dX9_checksum_63 ?_
    refine Y_Vv (pc := 64) (st := []) (kc' := 0) (ks' := 0) (ktX9_mix r0 (Int32.toInt64 x_43)) mw_X9_mix mv_X9_mix w1671 (RO.mk rfl rfl rfl rfl) rfl rfl rfl dX9_checksum_64 ⟨rfl, rfl⟩ ?_
    refine Z_iinc (pc := 67) (v := (nI 1)) (lv' := [some (.ref r0), some (.int v1), some (.int v2), some (.int (v3 + (nI 1)))]) dX9_checksum_67 rfl kI_1 rfl rfl rfl ?_
    refine S_goto (pc := 70) (tgt := 49) dX9_checksum_70 (by decide) ?_
    exact (h49 r0 v1 v2 (v3 + (nI 1)))
theorem sX9_checksum_49 {k14 : Nat → Int32 → AH → Option (Int64 × AH)} (h14 : ∀ (r0 : Nat) (v1 : Int32), Sm mX9_checksum rL 0 0 14 [some (.ref r0), some (.int v1), none, none] [] (k14 r0 v1)) {k21 : Nat → Int32 → Int32 → AH → Option (Int64 × AH)} (h21 : ∀ (r0 : Nat) (v1 : Int32) (v2 : Int32), Sm mX9_checksum rL 0 0 21 [some (.ref r0), some (.int v1), some (.int v2), none] [] (k21 r0 v1 v2)) : ∀ (n : Nat) (r0 : Nat) (v1 : Int32) (v2 : Int32) (v3 : Int32), Sm mX9_checksum rL 0 0 49 [some (.ref r0), some (.int v1), some (.int v2), some (.int v3)] [] (lX9_checksum_49 k14 k21 n r0 v1 v2 v3)
  | 0, _, _, _, _ => S_none
  | n + 1, r0, v1, v2, v3 => sbX9_checksum_49 h14 h21 (sX9_checksum_49 h14 h21 n) r0 v1 v2 v3
theorem sbX9_checksum_102 {k14 : Nat → Int32 → AH → Option (Int64 × AH)} (h14 : ∀ (r0 : Nat) (v1 : Int32), Sm mX9_checksum rL 0 0 14 [some (.ref r0), some (.int v1), none, none] [] (k14 r0 v1)) {k91 : Nat → Int32 → Int32 → AH → Option (Int64 × AH)} (h91 : ∀ (r0 : Nat) (v1 : Int32) (v2 : Int32), Sm mX9_checksum rL 0 0 91 [some (.ref r0), some (.int v1), some (.int v2), none] [] (k91 r0 v1 v2)) {k102 : Nat → Int32 → Int32 → Int32 → AH → Option (Int64 × AH)} (h102 : ∀ (r0 : Nat) (v1 : Int32) (v2 : Int32) (v3 : Int32), Sm mX9_checksum rL 0 0 102 [some (.ref r0), some (.int v1), some (.int v2), some (.int v3)] [] (k102 r0 v1 v2 v3)) (r0 : Nat) (v1 : Int32) (v2 : Int32) (v3 : Int32) : Sm mX9_checksum rL 0 0 102 [some (.ref r0), some (.int v1), some (.int v2), some (.int v3)] [] (bX9_checksum_102 k14 k91 k102 r0 v1 v2 v3) := by
  unfold bX9_checksum_102
  refine S_iload_n (pc := 102) dX9_checksum_102 rfl ?_
  refine S_bipush (pc := 103) (v := (nI 10)) dX9_checksum_103 kB_10 ?_
  refine S_icmpge (pc := 105) (tgt := 126) dX9_checksum_105 (by decide) ?_ ?_
  · refine Z_iinc (pc := 126) (v := (nI 1)) (lv' := [some (.ref r0), some (.int v1), some (.int (v2 + (nI 1))), some (.int v3)]) dX9_checksum_126 rfl kI_1 rfl rfl rfl ?_
    refine S_goto (pc := 129) (tgt := 91) dX9_checksum_129 (by decide) ?_
    exact (S_lv (lv0 := [some (.ref r0), some (.int v1), some (.int (v2 + (nI 1))), none]) (And.intro rfl (And.intro rfl (And.intro rfl trivial))) (h91 r0 v1 (v2 + (nI 1))))
  · refine S_aload_n (pc := 108) dX9_checksum_108 rfl ?_
    refine S_aload_n (pc := 109) dX9_checksum_109 rfl ?_
    refine S_iload_n (pc := 110) dX9_checksum_110 rfl ?_
    refine S_iload_n (pc := 111) dX9_checksum_111 rfl ?_
    refine S_iload_n (pc := 112) dX9_checksum_112 rfl ?_
    refine Y_Vi (pc := 113) (st := [.ref r0]) (kc' := 0) (ks' := 0) (ktX9_toldOf r0 v1 v2 v3) mw_X9_toldOf mv_X9_toldOf w1538 (RO.mk rfl rfl rfl rfl) rfl rfl rfl dX9_checksum_113 ⟨rfl, rfl⟩ (fun x_44 => ?_)
    refine S_i2l (pc := 116) dX9_checksum_116 ?_
    refine Y_Vv (pc := 117) (st := []) (kc' := 0) (ks' := 0) (ktX9_mix r0 (Int32.toInt64 x_44)) mw_X9_mix mv_X9_mix w1671 (RO.mk rfl rfl rfl rfl) rfl rfl rfl dX9_checksum_117 ⟨rfl, rfl⟩ ?_
    refine Z_iinc (pc := 120) (v := (nI 1)) (lv' := [some (.ref r0), some (.int v1), some (.int v2), some (.int (v3 + (nI 1)))]) dX9_checksum_120 rfl kI_1 rfl rfl rfl ?_
    refine S_goto (pc := 123) (tgt := 102) dX9_checksum_123 (by decide) ?_
    exact (h102 r0 v1 v2 (v3 + (nI 1)))
theorem sX9_checksum_102 {k14 : Nat → Int32 → AH → Option (Int64 × AH)} (h14 : ∀ (r0 : Nat) (v1 : Int32), Sm mX9_checksum rL 0 0 14 [some (.ref r0), some (.int v1), none, none] [] (k14 r0 v1)) {k91 : Nat → Int32 → Int32 → AH → Option (Int64 × AH)} (h91 : ∀ (r0 : Nat) (v1 : Int32) (v2 : Int32), Sm mX9_checksum rL 0 0 91 [some (.ref r0), some (.int v1), some (.int v2), none] [] (k91 r0 v1 v2)) : ∀ (n : Nat) (r0 : Nat) (v1 : Int32) (v2 : Int32) (v3 : Int32), Sm mX9_checksum rL 0 0 102 [some (.ref r0), some (.int v1), some (.int v2), some (.int v3)] [] (lX9_checksum_102 k14 k91 n r0 v1 v2 v3)
  | 0, _, _, _, _ => S_none
  | n + 1, r0, v1, v2, v3 => sbX9_checksum_102 h14 h91 (sX9_checksum_102 h14 h91 n) r0 v1 v2 v3
theorem sbX9_checksum_91 {k14 : Nat → Int32 → AH → Option (Int64 × AH)} (h14 : ∀ (r0 : Nat) (v1 : Int32), Sm mX9_checksum rL 0 0 14 [some (.ref r0), some (.int v1), none, none] [] (k14 r0 v1)) {k91 : Nat → Int32 → Int32 → AH → Option (Int64 × AH)} (h91 : ∀ (r0 : Nat) (v1 : Int32) (v2 : Int32), Sm mX9_checksum rL 0 0 91 [some (.ref r0), some (.int v1), some (.int v2), none] [] (k91 r0 v1 v2)) (r0 : Nat) (v1 : Int32) (v2 : Int32) : Sm mX9_checksum rL 0 0 91 [some (.ref r0), some (.int v1), some (.int v2), none] [] (bX9_checksum_91 k14 k91 r0 v1 v2) := by
  unfold bX9_checksum_91
  refine S_iload_n (pc := 91) dX9_checksum_91 rfl ?_
  refine S_aload_n (pc := 92) dX9_checksum_92 rfl ?_
  refine S_iload_n (pc := 93) dX9_checksum_93 rfl ?_
  refine Y_Vi (pc := 94) (st := [.int v2]) (kc' := 0) (ks' := 0) (ktX9_memberMany r0 v1) mw_X9_memberMany mv_X9_memberMany w1186 (RO.mk rfl rfl rfl rfl) rfl rfl rfl dX9_checksum_94 ⟨rfl, rfl⟩ (fun x_45 => ?_)
  refine S_icmpge (pc := 97) (tgt := 132) dX9_checksum_97 (by decide) ?_ ?_
  · refine Z_iinc (pc := 132) (v := (nI 1)) (lv' := [some (.ref r0), some (.int (v1 + (nI 1))), some (.int v2), none]) dX9_checksum_132 rfl kI_1 rfl rfl rfl ?_
    refine S_goto (pc := 135) (tgt := 14) dX9_checksum_135 (by decide) ?_
    exact (S_lv (lv0 := [some (.ref r0), some (.int (v1 + (nI 1))), none, none]) (And.intro rfl (And.intro rfl trivial)) (h14 r0 (v1 + (nI 1))))
  · refine S_iconst (pc := 100) (v := (nI 0)) dX9_checksum_100 kI_0 ?_
    refine Z_istore_n (pc := 101) (lv' := [some (.ref r0), some (.int v1), some (.int v2), some (.int (nI 0))]) dX9_checksum_101 rfl rfl rfl ?_
    exact (sX9_checksum_102 h14 h91 fuel r0 v1 v2 (nI 0))
theorem sX9_checksum_91 {k14 : Nat → Int32 → AH → Option (Int64 × AH)} (h14 : ∀ (r0 : Nat) (v1 : Int32), Sm mX9_checksum rL 0 0 14 [some (.ref r0), some (.int v1), none, none] [] (k14 r0 v1)) : ∀ (n : Nat) (r0 : Nat) (v1 : Int32) (v2 : Int32), Sm mX9_checksum rL 0 0 91 [some (.ref r0), some (.int v1), some (.int v2), none] [] (lX9_checksum_91 k14 n r0 v1 v2)
  | 0, _, _, _ => S_none
  | n + 1, r0, v1, v2 => sbX9_checksum_91 h14 (sX9_checksum_91 h14 n) r0 v1 v2
theorem sbX9_checksum_21 {k14 : Nat → Int32 → AH → Option (Int64 × AH)} (h14 : ∀ (r0 : Nat) (v1 : Int32), Sm mX9_checksum rL 0 0 14 [some (.ref r0), some (.int v1), none, none] [] (k14 r0 v1)) {k21 : Nat → Int32 → Int32 → AH → Option (Int64 × AH)} (h21 : ∀ (r0 : Nat) (v1 : Int32) (v2 : Int32), Sm mX9_checksum rL 0 0 21 [some (.ref r0), some (.int v1), some (.int v2), none] [] (k21 r0 v1 v2)) (r0 : Nat) (v1 : Int32) (v2 : Int32) : Sm mX9_checksum rL 0 0 21 [some (.ref r0), some (.int v1), some (.int v2), none] [] (bX9_checksum_21 k14 k21 r0 v1 v2) := by
  unfold bX9_checksum_21
  refine S_iload_n (pc := 21) dX9_checksum_21 rfl ?_
  refine S_bipush (pc := 22) (v := (nI 10)) dX9_checksum_22 kB_10 ?_
  refine S_icmpge (pc := 24) (tgt := 79) dX9_checksum_24 (by decide) ?_ ?_
  · refine S_aload_n (pc := 79) dX9_checksum_79 rfl ?_
    refine S_aload_n (pc := 80) dX9_checksum_80 rfl ?_
    refine S_iload_n (pc := 81) dX9_checksum_81 rfl ?_
    refine Y_Vi (pc := 82) (st := [.ref r0]) (kc' := 0) (ks' := 0) (ktX9_memberMany r0 v1) mw_X9_memberMany mv_X9_memberMany w1186 (RO.mk rfl rfl rfl rfl) rfl rfl rfl dX9_checksum_82 ⟨rfl, rfl⟩ (fun x_46 => ?_)
    refine S_i2l (pc := 85) dX9_checksum_85 ?_
    refine Y_Vv (pc := 86) (st := []) (kc' := 0) (ks' := 0) (ktX9_mix r0 (Int32.toInt64 x_46)) mw_X9_mix mv_X9_mix w1671 (RO.mk rfl rfl rfl rfl) rfl rfl rfl dX9_checksum_86 ⟨rfl, rfl⟩ ?_
    refine S_iconst (pc := 89) (v := (nI 0)) dX9_checksum_89 kI_0 ?_
    refine Z_istore_n (pc := 90) (lv' := [some (.ref r0), some (.int v1), some (.int (nI 0)), none]) dX9_checksum_90 rfl rfl rfl ?_
    exact (sX9_checksum_91 h14 fuel r0 v1 (nI 0))
  · refine S_aload_n (pc := 27) dX9_checksum_27 rfl ?_
    refine S_iload_n (pc := 28) dX9_checksum_28 rfl ?_
    refine S_iload_n (pc := 29) dX9_checksum_29 rfl ?_
    refine S_iconst (pc := 30) (v := (nI 0)) dX9_checksum_30 kI_0 ?_
    refine Y_Vi (pc := 31) (st := []) (kc' := 0) (ks' := 0) (ktX9_of r0 v1 v2 (nI 0)) mw_X9_of mv_X9_of w1219 (RO.mk rfl rfl rfl rfl) rfl rfl rfl dX9_checksum_31 ⟨rfl, rfl⟩ (fun x_47 => ?_)
    refine S_ifne (pc := 34) (tgt := 47) dX9_checksum_34 (by decide) ?_ ?_
    · refine S_iconst (pc := 47) (v := (nI 0)) dX9_checksum_47 kI_0 ?_
      refine Z_istore_n (pc := 48) (lv' := [some (.ref r0), some (.int v1), some (.int v2), some (.int (nI 0))]) dX9_checksum_48 rfl rfl rfl ?_
      exact (sX9_checksum_49 h14 h21 fuel r0 v1 v2 (nI 0))
    · refine S_aload_n (pc := 37) dX9_checksum_37 rfl ?_
      refine S_ldc2 (pc := 38) (v := (-3 : Int64)) w1670 dX9_checksum_38 ?_
      refine Y_Vv (pc := 41) (st := []) (kc' := 0) (ks' := 0) (ktX9_mix r0 (-3 : Int64)) mw_X9_mix mv_X9_mix w1671 (RO.mk rfl rfl rfl rfl) rfl rfl rfl dX9_checksum_41 ⟨rfl, rfl⟩ ?_
      refine S_goto (pc := 44) (tgt := 73) dX9_checksum_44 (by decide) ?_
      exact (sX9_checksum_73 h14 h21 r0 v1 v2)
theorem sX9_checksum_21 {k14 : Nat → Int32 → AH → Option (Int64 × AH)} (h14 : ∀ (r0 : Nat) (v1 : Int32), Sm mX9_checksum rL 0 0 14 [some (.ref r0), some (.int v1), none, none] [] (k14 r0 v1)) : ∀ (n : Nat) (r0 : Nat) (v1 : Int32) (v2 : Int32), Sm mX9_checksum rL 0 0 21 [some (.ref r0), some (.int v1), some (.int v2), none] [] (lX9_checksum_21 k14 n r0 v1 v2)
  | 0, _, _, _ => S_none
  | n + 1, r0, v1, v2 => sbX9_checksum_21 h14 (sX9_checksum_21 h14 n) r0 v1 v2
theorem sbX9_checksum_159 {k149 : Nat → Int32 → AH → Option (Int64 × AH)} (h149 : ∀ (r0 : Nat) (v1 : Int32), Sm mX9_checksum rL 0 0 149 [some (.ref r0), some (.int v1), none, none] [] (k149 r0 v1)) {k159 : Nat → Int32 → Int32 → AH → Option (Int64 × AH)} (h159 : ∀ (r0 : Nat) (v1 : Int32) (v2 : Int32), Sm mX9_checksum rL 0 0 159 [some (.ref r0), some (.int v1), some (.int v2), none] [] (k159 r0 v1 v2)) (r0 : Nat) (v1 : Int32) (v2 : Int32) : Sm mX9_checksum rL 0 0 159 [some (.ref r0), some (.int v1), some (.int v2), none] [] (bX9_checksum_159 k149 k159 r0 v1 v2) := by
  unfold bX9_checksum_159
  refine S_iload_n (pc := 159) dX9_checksum_159 rfl ?_
  refine S_bipush (pc := 160) (v := (nI 10)) dX9_checksum_160 kB_10 ?_
  refine S_icmpge (pc := 162) (tgt := 182) dX9_checksum_162 (by decide) ?_ ?_
  · refine S_aload_n (pc := 182) dX9_checksum_182 rfl ?_
    refine S_iload_n (pc := 183) dX9_checksum_183 rfl ?_
    refine Y_Vv (pc := 184) (st := []) (kc' := 0) (ks' := 0) (ktX9_takes r0 v1) mw_X9_takes mv_X9_takes w1585 (RO.mk rfl rfl rfl rfl) rfl rfl rfl dX9_checksum_184 ⟨rfl, rfl⟩ ?_
    refine S_aload_n (pc := 187) dX9_checksum_187 rfl ?_
    refine S_aload_n (pc := 188) dX9_checksum_188 rfl ?_
    refine S_iconst (pc := 189) (v := (nI 0)) dX9_checksum_189 kI_0 ?_
    refine Y_Vi (pc := 190) (st := [.ref r0]) (kc' := 0) (ks' := 0) (ktX9_compiled r0 (nI 0)) mw_X9_compiled mv_X9_compiled w1201 (RO.mk rfl rfl rfl rfl) rfl rfl rfl dX9_checksum_190 ⟨rfl, rfl⟩ (fun x_48 => ?_)
    refine S_i2l (pc := 193) dX9_checksum_193 ?_
    refine Y_Vv (pc := 194) (st := []) (kc' := 0) (ks' := 0) (ktX9_mix r0 (Int32.toInt64 x_48)) mw_X9_mix mv_X9_mix w1671 (RO.mk rfl rfl rfl rfl) rfl rfl rfl dX9_checksum_194 ⟨rfl, rfl⟩ ?_
    refine S_aload_n (pc := 197) dX9_checksum_197 rfl ?_
    refine S_aload_n (pc := 198) dX9_checksum_198 rfl ?_
    refine S_iconst (pc := 199) (v := (nI 1)) dX9_checksum_199 kI_1 ?_
    refine Y_Vi (pc := 200) (st := [.ref r0]) (kc' := 0) (ks' := 0) (ktX9_compiled r0 (nI 1)) mw_X9_compiled mv_X9_compiled w1201 (RO.mk rfl rfl rfl rfl) rfl rfl rfl dX9_checksum_200 ⟨rfl, rfl⟩ (fun x_49 => ?_)
    refine S_i2l (pc := 203) dX9_checksum_203 ?_
    refine Y_Vv (pc := 204) (st := []) (kc' := 0) (ks' := 0) (ktX9_mix r0 (Int32.toInt64 x_49)) mw_X9_mix mv_X9_mix w1671 (RO.mk rfl rfl rfl rfl) rfl rfl rfl dX9_checksum_204 ⟨rfl, rfl⟩ ?_
    refine S_aload_n (pc := 207) dX9_checksum_207 rfl ?_
    refine S_aload_n (pc := 208) dX9_checksum_208 rfl ?_
    refine S_iconst (pc := 209) (v := (nI 0)) dX9_checksum_209 kI_0 ?_
    refine Y_Vi (pc := 210) (st := [.ref r0]) (kc' := 0) (ks' := 0) (ktX9_linked r0 (nI 0)) mw_X9_linked mv_X9_linked w1617 (RO.mk rfl rfl rfl rfl) rfl rfl rfl dX9_checksum_210 ⟨rfl, rfl⟩ (fun x_50 => ?_)
    refine S_i2l (pc := 213) dX9_checksum_213 ?_
    refine Y_Vv (pc := 214) (st := []) (kc' := 0) (ks' := 0) (ktX9_mix r0 (Int32.toInt64 x_50)) mw_X9_mix mv_X9_mix w1671 (RO.mk rfl rfl rfl rfl) rfl rfl rfl dX9_checksum_214 ⟨rfl, rfl⟩ ?_
    refine S_aload_n (pc := 217) dX9_checksum_217 rfl ?_
    refine S_gI (pc := 218) fl_X9_265 rfl dX9_checksum_218 (fun x_51 => ?_)
    refine Z_istore_n (pc := 221) (lv' := [some (.ref r0), some (.int v1), some (.int x_51), none]) dX9_checksum_221 rfl rfl rfl ?_
    refine S_aload_n (pc := 222) dX9_checksum_222 rfl ?_
    refine S_aload_n (pc := 223) dX9_checksum_223 rfl ?_
    refine S_iconst (pc := 224) (v := (nI 1)) dX9_checksum_224 kI_1 ?_
    refine Y_Vi (pc := 225) (st := [.ref r0]) (kc' := 0) (ks' := 0) (ktX9_linked r0 (nI 1)) mw_X9_linked mv_X9_linked w1617 (RO.mk rfl rfl rfl rfl) rfl rfl rfl dX9_checksum_225 ⟨rfl, rfl⟩ (fun x_52 => ?_)
    refine S_i2l (pc := 228) dX9_checksum_228 ?_
    refine Y_Vv (pc := 229) (st := []) (kc' := 0) (ks' := 0) (ktX9_mix r0 (Int32.toInt64 x_52)) mw_X9_mix mv_X9_mix w1671 (RO.mk rfl rfl rfl rfl) rfl rfl rfl dX9_checksum_229 ⟨rfl, rfl⟩ ?_
    refine S_aload_n (pc := 232) dX9_checksum_232 rfl ?_
    refine S_iload_n (pc := 233) dX9_checksum_233 rfl ?_
    refine S_i2l (pc := 234) dX9_checksum_234 ?_
    refine Y_Vv (pc := 235) (st := []) (kc' := 0) (ks' := 0) (ktX9_mix r0 (Int32.toInt64 x_51)) mw_X9_mix mv_X9_mix w1671 (RO.mk rfl rfl rfl rfl) rfl rfl rfl dX9_checksum_235 ⟨rfl, rfl⟩ ?_
    refine S_aload_n (pc := 238) dX9_checksum_238 rfl ?_
    refine S_aload_n (pc := 239) dX9_checksum_239 rfl ?_
    refine S_gI (pc := 240) fl_X9_265 rfl dX9_checksum_240 (fun x_53 => ?_)
    refine S_i2l (pc := 243) dX9_checksum_243 ?_
    refine Y_Vv (pc := 244) (st := []) (kc' := 0) (ks' := 0) (ktX9_mix r0 (Int32.toInt64 x_53)) mw_X9_mix mv_X9_mix w1671 (RO.mk rfl rfl rfl rfl) rfl rfl rfl dX9_checksum_244 ⟨rfl, rfl⟩ ?_
    refine S_aload_n (pc := 247) dX9_checksum_247 rfl ?_
    refine S_aload_n (pc := 248) dX9_checksum_248 rfl ?_
    refine Y_Vi (pc := 249) (st := [.ref r0]) (kc' := 0) (ks' := 0) (ktX9_judged r0) mw_X9_judged mv_X9_judged w1641 (RO.mk rfl rfl rfl rfl) rfl rfl rfl dX9_checksum_249 ⟨rfl, rfl⟩ (fun x_54 => ?_)
    refine S_i2l (pc := 252) dX9_checksum_252 ?_
    refine Y_Vv (pc := 253) (st := []) (kc' := 0) (ks' := 0) (ktX9_mix r0 (Int32.toInt64 x_54)) mw_X9_mix mv_X9_mix w1671 (RO.mk rfl rfl rfl rfl) rfl rfl rfl dX9_checksum_253 ⟨rfl, rfl⟩ ?_
    refine Z_iinc (pc := 256) (v := (nI 1)) (lv' := [some (.ref r0), some (.int (v1 + (nI 1))), some (.int x_51), none]) dX9_checksum_256 rfl kI_1 rfl rfl rfl ?_
    refine S_goto (pc := 259) (tgt := 149) dX9_checksum_259 (by decide) ?_
    exact (S_lv (lv0 := [some (.ref r0), some (.int (v1 + (nI 1))), none, none]) (And.intro rfl (And.intro rfl trivial)) (h149 r0 (v1 + (nI 1))))
  · refine S_aload_n (pc := 165) dX9_checksum_165 rfl ?_
    refine S_aload_n (pc := 166) dX9_checksum_166 rfl ?_
    refine S_iload_n (pc := 167) dX9_checksum_167 rfl ?_
    refine S_iload_n (pc := 168) dX9_checksum_168 rfl ?_
    refine Y_Vi (pc := 169) (st := [.ref r0]) (kc' := 0) (ks' := 0) (ktX9_clientTold r0 v1 v2) mw_X9_clientTold mv_X9_clientTold w1601 (RO.mk rfl rfl rfl rfl) rfl rfl rfl dX9_checksum_169 ⟨rfl, rfl⟩ (fun x_55 => ?_)
    refine S_i2l (pc := 172) dX9_checksum_172 ?_
    refine Y_Vv (pc := 173) (st := []) (kc' := 0) (ks' := 0) (ktX9_mix r0 (Int32.toInt64 x_55)) mw_X9_mix mv_X9_mix w1671 (RO.mk rfl rfl rfl rfl) rfl rfl rfl dX9_checksum_173 ⟨rfl, rfl⟩ ?_
    refine Z_iinc (pc := 176) (v := (nI 1)) (lv' := [some (.ref r0), some (.int v1), some (.int (v2 + (nI 1))), none]) dX9_checksum_176 rfl kI_1 rfl rfl rfl ?_
    refine S_goto (pc := 179) (tgt := 159) dX9_checksum_179 (by decide) ?_
    exact (h159 r0 v1 (v2 + (nI 1)))
theorem sX9_checksum_159 {k149 : Nat → Int32 → AH → Option (Int64 × AH)} (h149 : ∀ (r0 : Nat) (v1 : Int32), Sm mX9_checksum rL 0 0 149 [some (.ref r0), some (.int v1), none, none] [] (k149 r0 v1)) : ∀ (n : Nat) (r0 : Nat) (v1 : Int32) (v2 : Int32), Sm mX9_checksum rL 0 0 159 [some (.ref r0), some (.int v1), some (.int v2), none] [] (lX9_checksum_159 k149 n r0 v1 v2)
  | 0, _, _, _ => S_none
  | n + 1, r0, v1, v2 => sbX9_checksum_159 h149 (sX9_checksum_159 h149 n) r0 v1 v2
theorem sbX9_checksum_149  {k149 : Nat → Int32 → AH → Option (Int64 × AH)} (h149 : ∀ (r0 : Nat) (v1 : Int32), Sm mX9_checksum rL 0 0 149 [some (.ref r0), some (.int v1), none, none] [] (k149 r0 v1)) (r0 : Nat) (v1 : Int32) : Sm mX9_checksum rL 0 0 149 [some (.ref r0), some (.int v1), none, none] [] (bX9_checksum_149 k149 r0 v1) := by
  unfold bX9_checksum_149
  refine S_iload_n (pc := 149) dX9_checksum_149 rfl ?_
  refine S_aload_n (pc := 150) dX9_checksum_150 rfl ?_
  refine Y_Vi (pc := 151) (st := [.int v1]) (kc' := 0) (ks' := 0) (ktX9_clientMany r0) mw_X9_clientMany mv_X9_clientMany w1334 (RO.mk rfl rfl rfl rfl) rfl rfl rfl dX9_checksum_151 ⟨rfl, rfl⟩ (fun x_56 => ?_)
  refine S_icmpge (pc := 154) (tgt := 262) dX9_checksum_154 (by decide) ?_ ?_
  · refine S_aload_n (pc := 262) dX9_checksum_262 rfl ?_
    refine S_aload_n (pc := 263) dX9_checksum_263 rfl ?_
    refine S_gP (pc := 264) fl_X9_16 rfl dX9_checksum_264 (fun a_57 => ?_)
    refine S_iconst (pc := 267) (v := (nI 0)) dX9_checksum_267 kI_0 ?_
    refine S_ldI (pc := 268) dX9_checksum_268 (fun x_58 => ?_)
    refine S_i2l (pc := 269) dX9_checksum_269 ?_
    refine Y_Vv (pc := 270) (st := []) (kc' := 0) (ks' := 0) (ktX9_mix r0 (Int32.toInt64 x_58)) mw_X9_mix mv_X9_mix w1671 (RO.mk rfl rfl rfl rfl) rfl rfl rfl dX9_checksum_270 ⟨rfl, rfl⟩ ?_
    refine S_aload_n (pc := 273) dX9_checksum_273 rfl ?_
    refine S_aload_n (pc := 274) dX9_checksum_274 rfl ?_
    refine S_gP (pc := 275) fl_X9_16 rfl dX9_checksum_275 (fun a_59 => ?_)
    refine S_iconst (pc := 278) (v := (nI 1)) dX9_checksum_278 kI_1 ?_
    refine S_ldI (pc := 279) dX9_checksum_279 (fun x_60 => ?_)
    refine S_i2l (pc := 280) dX9_checksum_280 ?_
    refine Y_Vv (pc := 281) (st := []) (kc' := 0) (ks' := 0) (ktX9_mix r0 (Int32.toInt64 x_60)) mw_X9_mix mv_X9_mix w1671 (RO.mk rfl rfl rfl rfl) rfl rfl rfl dX9_checksum_281 ⟨rfl, rfl⟩ ?_
    refine S_aload_n (pc := 284) dX9_checksum_284 rfl ?_
    refine S_aload_n (pc := 285) dX9_checksum_285 rfl ?_
    refine S_gI (pc := 286) fl_X9_59 rfl dX9_checksum_286 (fun x_61 => ?_)
    refine S_i2l (pc := 289) dX9_checksum_289 ?_
    refine Y_Vv (pc := 290) (st := []) (kc' := 0) (ks' := 0) (ktX9_mix r0 (Int32.toInt64 x_61)) mw_X9_mix mv_X9_mix w1671 (RO.mk rfl rfl rfl rfl) rfl rfl rfl dX9_checksum_290 ⟨rfl, rfl⟩ ?_
    refine S_aload_n (pc := 293) dX9_checksum_293 rfl ?_
    refine S_gJ (pc := 294) fl_X9_325 rfl dX9_checksum_294 (fun y_62 => ?_)
    exact S_lret (pc := 297) ⟨rfl, rfl⟩ rfl rfl dX9_checksum_297
  · refine S_iconst (pc := 157) (v := (nI 0)) dX9_checksum_157 kI_0 ?_
    refine Z_istore_n (pc := 158) (lv' := [some (.ref r0), some (.int v1), some (.int (nI 0)), none]) dX9_checksum_158 rfl rfl rfl ?_
    exact (sX9_checksum_159 h149 fuel r0 v1 (nI 0))
theorem sX9_checksum_149  : ∀ (n : Nat) (r0 : Nat) (v1 : Int32), Sm mX9_checksum rL 0 0 149 [some (.ref r0), some (.int v1), none, none] [] (lX9_checksum_149 n r0 v1)
  | 0, _, _ => S_none
  | n + 1, r0, v1 => sbX9_checksum_149 (sX9_checksum_149 n) r0 v1
theorem sbX9_checksum_14  {k14 : Nat → Int32 → AH → Option (Int64 × AH)} (h14 : ∀ (r0 : Nat) (v1 : Int32), Sm mX9_checksum rL 0 0 14 [some (.ref r0), some (.int v1), none, none] [] (k14 r0 v1)) (r0 : Nat) (v1 : Int32) : Sm mX9_checksum rL 0 0 14 [some (.ref r0), some (.int v1), none, none] [] (bX9_checksum_14 k14 r0 v1) := by
  unfold bX9_checksum_14
  refine S_iload_n (pc := 14) dX9_checksum_14 rfl ?_
  refine S_iconst (pc := 15) (v := (nI 2)) dX9_checksum_15 kI_2 ?_
  refine S_icmpge (pc := 16) (tgt := 138) dX9_checksum_16 (by decide) ?_ ?_
  · refine S_aload_n (pc := 138) dX9_checksum_138 rfl ?_
    refine S_aload_n (pc := 139) dX9_checksum_139 rfl ?_
    refine Y_Vi (pc := 140) (st := [.ref r0]) (kc' := 0) (ks' := 0) (ktX9_clientMany r0) mw_X9_clientMany mv_X9_clientMany w1334 (RO.mk rfl rfl rfl rfl) rfl rfl rfl dX9_checksum_140 ⟨rfl, rfl⟩ (fun x_63 => ?_)
    refine S_i2l (pc := 143) dX9_checksum_143 ?_
    refine Y_Vv (pc := 144) (st := []) (kc' := 0) (ks' := 0) (ktX9_mix r0 (Int32.toInt64 x_63)) mw_X9_mix mv_X9_mix w1671 (RO.mk rfl rfl rfl rfl) rfl rfl rfl dX9_checksum_144 ⟨rfl, rfl⟩ ?_
    refine S_iconst (pc := 147) (v := (nI 0)) dX9_checksum_147 kI_0 ?_
    refine Z_istore_n (pc := 148) (lv' := [some (.ref r0), some (.int (nI 0)), none, none]) dX9_checksum_148 rfl rfl rfl ?_
    exact (sX9_checksum_149 fuel r0 (nI 0))
  · refine S_iconst (pc := 19) (v := (nI 0)) dX9_checksum_19 kI_0 ?_
    refine Z_istore_n (pc := 20) (lv' := [some (.ref r0), some (.int v1), some (.int (nI 0)), none]) dX9_checksum_20 rfl rfl rfl ?_
    exact (sX9_checksum_21 h14 fuel r0 v1 (nI 0))
theorem sX9_checksum_14  : ∀ (n : Nat) (r0 : Nat) (v1 : Int32), Sm mX9_checksum rL 0 0 14 [some (.ref r0), some (.int v1), none, none] [] (lX9_checksum_14 n r0 v1)
  | 0, _, _ => S_none
  | n + 1, r0, v1 => sbX9_checksum_14 (sX9_checksum_14 n) r0 v1
theorem sX9_checksum  (r0 : Nat) : Sm mX9_checksum rL 0 0 0 [some (.ref r0), none, none, none] [] (fX9_checksum r0) := by
  unfold fX9_checksum
  refine S_aload_n (pc := 0) dX9_checksum_0 rfl ?_
  refine S_iconst (pc := 1) (v := (nI 0)) dX9_checksum_1 kI_0 ?_
  refine S_pI (pc := 2) fl_X9_55 rfl rfl dX9_checksum_2 ?_
  refine S_aload_n (pc := 5) dX9_checksum_5 rfl ?_
  refine S_ldc2 (pc := 6) (v := (17317 : Int64)) w1669 dX9_checksum_6 ?_
  refine S_pJ (pc := 9) fl_X9_325 rfl rfl dX9_checksum_9 ?_
  refine S_iconst (pc := 12) (v := (nI 0)) dX9_checksum_12 kI_0 ?_
  refine Z_istore_n (pc := 13) (lv' := [some (.ref r0), some (.int (nI 0)), none, none]) dX9_checksum_13 rfl rfl rfl ?_
  exact (sX9_checksum_14 fuel r0 (nI 0))
theorem ktX9_checksum (r0 : Nat) : Ct mX9_checksum rL [.ref r0] (fX9_checksum r0) := Ct.of (z := 3) pn_X9 rfl rfl rfl (sX9_checksum r0)
def mX9_classInfo : MI := (yX9_classInfo, cX9_classInfo, 4, (some .int), { frames := 9, cells := 0, slots := 0, locals := 227 }, [])
theorem mw_X9_classInfo : MW mX9_classInfo 3 := ⟨w1477, w11, ⟨by decide, by decide⟩, by decide +kernel⟩
theorem mv_X9_classInfo : MV mX9_classInfo 9 := ⟨_, rfl, w1475, w1476⟩
def fX9_classInfo_29  (r0 : Nat) (v1 : Int32) (v2 : Int32) (v3 : Int32) (s0 : Nat) (s1 : Int32) : AH → Option (Int32 × AH) := fun h =>
  cv 9 s0 (fX9_refused s0 s1) h fun x_9 h =>
  if x_9 = 0 then (
    cv 9 r0 (fX9_infoOf r0 v1 v2 v3) h fun x_10 h =>
    some (x_10, h))
  else
  some ((nI 0), h)
def fX9_classInfo  (r0 : Nat) (v1 : Int32) (v2 : Int32) (v3 : Int32) : AH → Option (Int32 × AH) := fun h =>
  cv 9 r0 (fX9_isClass r0 v1 v2) h fun x_11 h =>
  if x_11 = 0 then (
    fX9_classInfo_29 r0 v1 v2 v3 r0 (nI 1) h)
  else
  bd (fX9_within v3 (nI 0) (nI 9) h) fun x_12 h =>
  if x_12 = 0 then (
    fX9_classInfo_29 r0 v1 v2 v3 r0 (nI 2) h)
  else
  fX9_classInfo_29 r0 v1 v2 v3 r0 (nI 0) h
theorem sX9_classInfo_29  (r0 : Nat) (v1 : Int32) (v2 : Int32) (v3 : Int32) (s0 : Nat) (s1 : Int32) : Sm mX9_classInfo rI 0 0 29 [some (.ref r0), some (.int v1), some (.int v2), some (.int v3)] [.int s1, .ref s0] (fX9_classInfo_29 r0 v1 v2 v3 s0 s1) := by
  unfold fX9_classInfo_29
  refine Y_Vi (pc := 29) (st := []) (kc' := 0) (ks' := 0) (ktX9_refused s0 s1) mw_X9_refused mv_X9_refused w1415 (RO.mk rfl rfl rfl rfl) rfl rfl rfl dX9_classInfo_29 ⟨rfl, rfl⟩ (fun x_9 => ?_)
  refine S_ifeq (pc := 32) (tgt := 37) dX9_classInfo_32 (by decide) ?_ ?_
  · refine S_aload_n (pc := 37) dX9_classInfo_37 rfl ?_
    refine S_iload_n (pc := 38) dX9_classInfo_38 rfl ?_
    refine S_iload_n (pc := 39) dX9_classInfo_39 rfl ?_
    refine S_iload_n (pc := 40) dX9_classInfo_40 rfl ?_
    refine Y_Vi (pc := 41) (st := []) (kc' := 0) (ks' := 0) (ktX9_infoOf r0 v1 v2 v3) mw_X9_infoOf mv_X9_infoOf w1478 (RO.mk rfl rfl rfl rfl) rfl rfl rfl dX9_classInfo_41 ⟨rfl, rfl⟩ (fun x_10 => ?_)
    exact S_iret (pc := 44) ⟨rfl, rfl⟩ rfl rfl dX9_classInfo_44
  · refine S_iconst (pc := 35) (v := (nI 0)) dX9_classInfo_35 kI_0 ?_
    exact S_iret (pc := 36) ⟨rfl, rfl⟩ rfl rfl dX9_classInfo_36
theorem sX9_classInfo  (r0 : Nat) (v1 : Int32) (v2 : Int32) (v3 : Int32) : Sm mX9_classInfo rI 0 0 0 [some (.ref r0), some (.int v1), some (.int v2), some (.int v3)] [] (fX9_classInfo r0 v1 v2 v3) := by
  unfold fX9_classInfo
  refine S_aload_n (pc := 0) dX9_classInfo_0 rfl ?_
  refine S_aload_n (pc := 1) dX9_classInfo_1 rfl ?_
  refine S_iload_n (pc := 2) dX9_classInfo_2 rfl ?_
  refine S_iload_n (pc := 3) dX9_classInfo_3 rfl ?_
  refine Y_Vi (pc := 4) (st := [.ref r0]) (kc' := 0) (ks' := 0) (ktX9_isClass r0 v1 v2) mw_X9_isClass mv_X9_isClass w1209 (RO.mk rfl rfl rfl rfl) rfl rfl rfl dX9_classInfo_4 ⟨rfl, rfl⟩ (fun x_11 => ?_)
  refine S_ifne (pc := 7) (tgt := 14) dX9_classInfo_7 (by decide) ?_ ?_
  · refine S_iload_n (pc := 14) dX9_classInfo_14 rfl ?_
    refine S_iconst (pc := 15) (v := (nI 0)) dX9_classInfo_15 kI_0 ?_
    refine S_bipush (pc := 16) (v := (nI 9)) dX9_classInfo_16 kB_9 ?_
    refine Y_Ti (pc := 18) (st := [.ref r0]) (kc' := 0) (ks' := 0) (ktX9_within v3 (nI 0) (nI 9)) mw_X9_within w1217 w1216 (RO.mk rfl rfl rfl rfl) rfl rfl rfl dX9_classInfo_18 ⟨rfl, rfl⟩ (fun x_12 => ?_)
    refine S_ifne (pc := 21) (tgt := 28) dX9_classInfo_21 (by decide) ?_ ?_
    · refine S_iconst (pc := 28) (v := (nI 0)) dX9_classInfo_28 kI_0 ?_
      exact (sX9_classInfo_29 r0 v1 v2 v3 r0 (nI 0))
    · refine S_iconst (pc := 24) (v := (nI 2)) dX9_classInfo_24 kI_2 ?_
      refine S_goto (pc := 25) (tgt := 29) dX9_classInfo_25 (by decide) ?_
      exact (sX9_classInfo_29 r0 v1 v2 v3 r0 (nI 2))
  · refine S_iconst (pc := 10) (v := (nI 1)) dX9_classInfo_10 kI_1 ?_
    refine S_goto (pc := 11) (tgt := 29) dX9_classInfo_11 (by decide) ?_
    exact (sX9_classInfo_29 r0 v1 v2 v3 r0 (nI 1))
theorem ktX9_classInfo (r0 : Nat) (v1 : Int32) (v2 : Int32) (v3 : Int32) : Ct mX9_classInfo rI [.ref r0, .int v1, .int v2, .int v3] (fX9_classInfo r0 v1 v2 v3) := Ct.of (z := 0) pn_X9 rfl rfl rfl (sX9_classInfo r0 v1 v2 v3)
def mX9_classMany : MI := (yX9_classMany, cX9_classMany, 4, (some .int), { frames := 2, cells := 0, slots := 0, locals := 44 }, [])
theorem mw_X9_classMany : MW mX9_classMany 1 := ⟨w1438, w11, ⟨by decide, by decide⟩, by decide +kernel⟩
theorem mv_X9_classMany : MV mX9_classMany 9 := ⟨_, rfl, w1437, wp76⟩
def bX9_classMany_4  (k4 : Nat → Int32 → Int32 → Int32 → AH → Option (Int32 × AH)) (r0 : Nat) (v1 : Int32) (v2 : Int32) (v3 : Int32) : AH → Option (Int32 × AH) := fun h =>
  if (nI 10) ≤ v3 then (
    some (v2, h))
  else
  cv 9 r0 (fX9_of r0 v1 v3 (nI 0)) h fun x_3 h =>
  k4 r0 v1 (v2 + x_3) (v3 + (nI 1)) h
def lX9_classMany_4  : Nat → Nat → Int32 → Int32 → Int32 → AH → Option (Int32 × AH)
  | 0 => fun _ _ _ _ _ => none
  | n + 1 => bX9_classMany_4 (lX9_classMany_4 n)
def fX9_classMany  (r0 : Nat) (v1 : Int32) : AH → Option (Int32 × AH) := fun h =>
  lX9_classMany_4 fuel r0 v1 (nI 0) (nI 0) h
theorem sbX9_classMany_4  {k4 : Nat → Int32 → Int32 → Int32 → AH → Option (Int32 × AH)} (h4 : ∀ (r0 : Nat) (v1 : Int32) (v2 : Int32) (v3 : Int32), Sm mX9_classMany rI 0 0 4 [some (.ref r0), some (.int v1), some (.int v2), some (.int v3)] [] (k4 r0 v1 v2 v3)) (r0 : Nat) (v1 : Int32) (v2 : Int32) (v3 : Int32) : Sm mX9_classMany rI 0 0 4 [some (.ref r0), some (.int v1), some (.int v2), some (.int v3)] [] (bX9_classMany_4 k4 r0 v1 v2 v3) := by
  unfold bX9_classMany_4
  refine S_iload_n (pc := 4) dX9_classMany_4 rfl ?_
  refine S_bipush (pc := 5) (v := (nI 10)) dX9_classMany_5 kB_10 ?_
  refine S_icmpge (pc := 7) (tgt := 26) dX9_classMany_7 (by decide) ?_ ?_
  · refine S_iload_n (pc := 26) dX9_classMany_26 rfl ?_
    exact S_iret (pc := 27) ⟨rfl, rfl⟩ rfl rfl dX9_classMany_27
  · refine S_iload_n (pc := 10) dX9_classMany_10 rfl ?_
    refine S_aload_n (pc := 11) dX9_classMany_11 rfl ?_
    refine S_iload_n (pc := 12) dX9_classMany_12 rfl ?_
    refine S_iload_n (pc := 13) dX9_classMany_13 rfl ?_
    refine S_iconst (pc := 14) (v := (nI 0)) dX9_classMany_14 kI_0 ?_
    refine Y_Vi (pc := 15) (st := [.int v2]) (kc' := 0) (ks' := 0) (ktX9_of r0 v1 v3 (nI 0)) mw_X9_of mv_X9_of w1219 (RO.mk rfl rfl rfl rfl) rfl rfl rfl dX9_classMany_15 ⟨rfl, rfl⟩ (fun x_3 => ?_)
    refine S_iadd (pc := 18) dX9_classMany_18 ?_
    refine Z_istore_n (pc := 19) (lv' := [some (.ref r0), some (.int v1), some (.int (v2 + x_3)), some (.int v3)]) dX9_classMany_19 rfl rfl rfl ?_
    refine Z_iinc (pc := 20) (v := (nI 1)) (lv' := [some (.ref r0), some (.int v1), some (.int (v2 + x_3)), some (.int (v3 + (nI 1)))]) dX9_classMany_20 rfl kI_1 rfl rfl rfl ?_
    refine S_goto (pc := 23) (tgt := 4) dX9_classMany_23 (by decide) ?_
    exact (h4 r0 v1 (v2 + x_3) (v3 + (nI 1)))
theorem sX9_classMany_4  : ∀ (n : Nat) (r0 : Nat) (v1 : Int32) (v2 : Int32) (v3 : Int32), Sm mX9_classMany rI 0 0 4 [some (.ref r0), some (.int v1), some (.int v2), some (.int v3)] [] (lX9_classMany_4 n r0 v1 v2 v3)
  | 0, _, _, _, _ => S_none
  | n + 1, r0, v1, v2, v3 => sbX9_classMany_4 (sX9_classMany_4 n) r0 v1 v2 v3
theorem sX9_classMany  (r0 : Nat) (v1 : Int32) : Sm mX9_classMany rI 0 0 0 [some (.ref r0), some (.int v1), none, none] [] (fX9_classMany r0 v1) := by
  unfold fX9_classMany
  refine S_iconst (pc := 0) (v := (nI 0)) dX9_classMany_0 kI_0 ?_
  refine Z_istore_n (pc := 1) (lv' := [some (.ref r0), some (.int v1), some (.int (nI 0)), none]) dX9_classMany_1 rfl rfl rfl ?_
  refine S_iconst (pc := 2) (v := (nI 0)) dX9_classMany_2 kI_0 ?_
  refine Z_istore_n (pc := 3) (lv' := [some (.ref r0), some (.int v1), some (.int (nI 0)), some (.int (nI 0))]) dX9_classMany_3 rfl rfl rfl ?_
  exact (sX9_classMany_4 fuel r0 v1 (nI 0) (nI 0))
theorem ktX9_classMany (r0 : Nat) (v1 : Int32) : Ct mX9_classMany rI [.ref r0, .int v1] (fX9_classMany r0 v1) := Ct.of (z := 2) pn_X9 rfl rfl rfl (sX9_classMany r0 v1)
def mX9_isClient : MI := (yX9_isClient, cX9_isClient, 2, (some .boolean), { frames := 1, cells := 0, slots := 0, locals := 22 }, [])
theorem mw_X9_isClient : MW mX9_isClient 1 := ⟨w1584, w11, ⟨by decide, by decide⟩, by decide +kernel⟩
theorem mv_X9_isClient : MV mX9_isClient 9 := ⟨_, rfl, w1583, wp92⟩
def fX9_isClient  (r0 : Nat) (v1 : Int32) : AH → Option (Int32 × AH) := fun h =>
  cv 9 r0 (fX9_clientMany r0) h fun x_3 h =>
  bd (fX9_within v1 (nI 0) (x_3 - (nI 1)) h) fun x_4 h =>
  rz x_4 x_4 h
theorem sX9_isClient  (r0 : Nat) (v1 : Int32) : Sm mX9_isClient rI 0 0 0 [some (.ref r0), some (.int v1)] [] (fX9_isClient r0 v1) := by
  unfold fX9_isClient
  refine S_iload_n (pc := 0) dX9_isClient_0 rfl ?_
  refine S_iconst (pc := 1) (v := (nI 0)) dX9_isClient_1 kI_0 ?_
  refine S_aload_n (pc := 2) dX9_isClient_2 rfl ?_
  refine Y_Vi (pc := 3) (st := [.int (nI 0), .int v1]) (kc' := 0) (ks' := 0) (ktX9_clientMany r0) mw_X9_clientMany mv_X9_clientMany w1334 (RO.mk rfl rfl rfl rfl) rfl rfl rfl dX9_isClient_3 ⟨rfl, rfl⟩ (fun x_3 => ?_)
  refine S_iconst (pc := 6) (v := (nI 1)) dX9_isClient_6 kI_1 ?_
  refine S_isub (pc := 7) dX9_isClient_7 ?_
  refine Y_Ti (pc := 8) (st := []) (kc' := 0) (ks' := 0) (ktX9_within v1 (nI 0) (x_3 - (nI 1))) mw_X9_within w1217 w1216 (RO.mk rfl rfl rfl rfl) rfl rfl rfl dX9_isClient_8 ⟨rfl, rfl⟩ (fun x_4 => ?_)
  exact S_zret (pc := 11) ⟨rfl, rfl⟩ rfl rfl dX9_isClient_11
theorem ktX9_isClient (r0 : Nat) (v1 : Int32) : Ct mX9_isClient rI [.ref r0, .int v1] (fX9_isClient r0 v1) := Ct.of (z := 0) pn_X9 rfl rfl rfl (sX9_isClient r0 v1)
def mX9_clientInfo : MI := (yX9_clientInfo, cX9_clientInfo, 3, (some .int), { frames := 2, cells := 0, slots := 0, locals := 43 }, [])
theorem mw_X9_clientInfo : MW mX9_clientInfo 2 := ⟨w1600, w11, ⟨by decide, by decide⟩, by decide +kernel⟩
theorem mv_X9_clientInfo : MV mX9_clientInfo 9 := ⟨_, rfl, w1598, w1599⟩
def fX9_clientInfo_28  (r0 : Nat) (v1 : Int32) (v2 : Int32) (s0 : Nat) (s1 : Int32) : AH → Option (Int32 × AH) := fun h =>
  cv 9 s0 (fX9_refused s0 s1) h fun x_9 h =>
  if x_9 = 0 then (
    cv 9 r0 (fX9_clientTold r0 v1 v2) h fun x_10 h =>
    some (x_10, h))
  else
  some ((nI 0), h)
def fX9_clientInfo  (r0 : Nat) (v1 : Int32) (v2 : Int32) : AH → Option (Int32 × AH) := fun h =>
  cv 9 r0 (fX9_isClient r0 v1) h fun x_11 h =>
  if x_11 = 0 then (
    fX9_clientInfo_28 r0 v1 v2 r0 (nI 1) h)
  else
  bd (fX9_within v2 (nI 0) (nI 9) h) fun x_12 h =>
  if x_12 = 0 then (
    fX9_clientInfo_28 r0 v1 v2 r0 (nI 2) h)
  else
  fX9_clientInfo_28 r0 v1 v2 r0 (nI 0) h
theorem sX9_clientInfo_28  (r0 : Nat) (v1 : Int32) (v2 : Int32) (s0 : Nat) (s1 : Int32) : Sm mX9_clientInfo rI 0 0 28 [some (.ref r0), some (.int v1), some (.int v2)] [.int s1, .ref s0] (fX9_clientInfo_28 r0 v1 v2 s0 s1) := by
  unfold fX9_clientInfo_28
  refine Y_Vi (pc := 28) (st := []) (kc' := 0) (ks' := 0) (ktX9_refused s0 s1) mw_X9_refused mv_X9_refused w1415 (RO.mk rfl rfl rfl rfl) rfl rfl rfl dX9_clientInfo_28 ⟨rfl, rfl⟩ (fun x_9 => ?_)
  refine S_ifeq (pc := 31) (tgt := 36) dX9_clientInfo_31 (by decide) ?_ ?_
  · refine S_aload_n (pc := 36) dX9_clientInfo_36 rfl ?_
    refine S_iload_n (pc := 37) dX9_clientInfo_37 rfl ?_
    refine S_iload_n (pc := 38) dX9_clientInfo_38 rfl ?_
    refine Y_Vi (pc := 39) (st := []) (kc' := 0) (ks' := 0) (ktX9_clientTold r0 v1 v2) mw_X9_clientTold mv_X9_clientTold w1601 (RO.mk rfl rfl rfl rfl) rfl rfl rfl dX9_clientInfo_39 ⟨rfl, rfl⟩ (fun x_10 => ?_)
    exact S_iret (pc := 42) ⟨rfl, rfl⟩ rfl rfl dX9_clientInfo_42
  · refine S_iconst (pc := 34) (v := (nI 0)) dX9_clientInfo_34 kI_0 ?_
    exact S_iret (pc := 35) ⟨rfl, rfl⟩ rfl rfl dX9_clientInfo_35
theorem sX9_clientInfo  (r0 : Nat) (v1 : Int32) (v2 : Int32) : Sm mX9_clientInfo rI 0 0 0 [some (.ref r0), some (.int v1), some (.int v2)] [] (fX9_clientInfo r0 v1 v2) := by
  unfold fX9_clientInfo
  refine S_aload_n (pc := 0) dX9_clientInfo_0 rfl ?_
  refine S_aload_n (pc := 1) dX9_clientInfo_1 rfl ?_
  refine S_iload_n (pc := 2) dX9_clientInfo_2 rfl ?_
  refine Y_Vi (pc := 3) (st := [.ref r0]) (kc' := 0) (ks' := 0) (ktX9_isClient r0 v1) mw_X9_isClient mv_X9_isClient w1581 (RO.mk rfl rfl rfl rfl) rfl rfl rfl dX9_clientInfo_3 ⟨rfl, rfl⟩ (fun x_11 => ?_)
  refine S_ifne (pc := 6) (tgt := 13) dX9_clientInfo_6 (by decide) ?_ ?_
  · refine S_iload_n (pc := 13) dX9_clientInfo_13 rfl ?_
    refine S_iconst (pc := 14) (v := (nI 0)) dX9_clientInfo_14 kI_0 ?_
    refine S_bipush (pc := 15) (v := (nI 9)) dX9_clientInfo_15 kB_9 ?_
    refine Y_Ti (pc := 17) (st := [.ref r0]) (kc' := 0) (ks' := 0) (ktX9_within v2 (nI 0) (nI 9)) mw_X9_within w1217 w1216 (RO.mk rfl rfl rfl rfl) rfl rfl rfl dX9_clientInfo_17 ⟨rfl, rfl⟩ (fun x_12 => ?_)
    refine S_ifne (pc := 20) (tgt := 27) dX9_clientInfo_20 (by decide) ?_ ?_
    · refine S_iconst (pc := 27) (v := (nI 0)) dX9_clientInfo_27 kI_0 ?_
      exact (sX9_clientInfo_28 r0 v1 v2 r0 (nI 0))
    · refine S_iconst (pc := 23) (v := (nI 2)) dX9_clientInfo_23 kI_2 ?_
      refine S_goto (pc := 24) (tgt := 28) dX9_clientInfo_24 (by decide) ?_
      exact (sX9_clientInfo_28 r0 v1 v2 r0 (nI 2))
  · refine S_iconst (pc := 9) (v := (nI 1)) dX9_clientInfo_9 kI_1 ?_
    refine S_goto (pc := 10) (tgt := 28) dX9_clientInfo_10 (by decide) ?_
    exact (sX9_clientInfo_28 r0 v1 v2 r0 (nI 1))
theorem ktX9_clientInfo (r0 : Nat) (v1 : Int32) (v2 : Int32) : Ct mX9_clientInfo rI [.ref r0, .int v1, .int v2] (fX9_clientInfo r0 v1 v2) := Ct.of (z := 0) pn_X9 rfl rfl rfl (sX9_clientInfo r0 v1 v2)
def mX9_clients : MI := (yX9_clients, cX9_clients, 1, (some .int), { frames := 1, cells := 0, slots := 0, locals := 20 }, [])
theorem mw_X9_clients : MW mX9_clients 0 := ⟨w1596, w11, ⟨by decide, by decide⟩, by decide +kernel⟩
theorem mv_X9_clients : MV mX9_clients 9 := ⟨_, rfl, w1594, w1595⟩
def fX9_clients  (r0 : Nat) : AH → Option (Int32 × AH) := fun h =>
  (pI 9 r0 3 (nI 0) h).bind fun h =>
  cv 9 r0 (fX9_clientMany r0) h fun x_2 h =>
  some (x_2, h)
theorem sX9_clients  (r0 : Nat) : Sm mX9_clients rI 0 0 0 [some (.ref r0)] [] (fX9_clients r0) := by
  unfold fX9_clients
  refine S_aload_n (pc := 0) dX9_clients_0 rfl ?_
  refine S_iconst (pc := 1) (v := (nI 0)) dX9_clients_1 kI_0 ?_
  refine S_pI (pc := 2) fl_X9_55 rfl rfl dX9_clients_2 ?_
  refine S_aload_n (pc := 5) dX9_clients_5 rfl ?_
  refine Y_Vi (pc := 6) (st := []) (kc' := 0) (ks' := 0) (ktX9_clientMany r0) mw_X9_clientMany mv_X9_clientMany w1334 (RO.mk rfl rfl rfl rfl) rfl rfl rfl dX9_clients_6 ⟨rfl, rfl⟩ (fun x_2 => ?_)
  exact S_iret (pc := 9) ⟨rfl, rfl⟩ rfl rfl dX9_clients_9
theorem ktX9_clients (r0 : Nat) : Ct mX9_clients rI [.ref r0] (fX9_clients r0) := Ct.of (z := 0) pn_X9 rfl rfl rfl (sX9_clients r0)
def mX9_isBoth : MI := (yX9_isBoth, cX9_isBoth, 3, (some .boolean), { frames := 2, cells := 0, slots := 0, locals := 43 }, [])
theorem mw_X9_isBoth : MW mX9_isBoth 2 := ⟨w1612, w11, ⟨by decide, by decide⟩, by decide +kernel⟩
theorem mv_X9_isBoth : MV mX9_isBoth 9 := ⟨_, rfl, w1611, wp95⟩
def fX9_isBoth  (r0 : Nat) (v1 : Int32) (v2 : Int32) : AH → Option (Int32 × AH) := fun h =>
  cv 9 r0 (fX9_isClient r0 v1) h fun x_3 h =>
  if x_3 = 0 then (
    rz (nI 0) (nI 0) h)
  else
  bd (fX9_isVersion v2 h) fun x_4 h =>
  if x_4 = 0 then (
    rz (nI 0) (nI 0) h)
  else
  rz (nI 1) (nI 1) h
theorem sX9_isBoth  (r0 : Nat) (v1 : Int32) (v2 : Int32) : Sm mX9_isBoth rI 0 0 0 [some (.ref r0), some (.int v1), some (.int v2)] [] (fX9_isBoth r0 v1 v2) := by
  unfold fX9_isBoth
  refine S_aload_n (pc := 0) dX9_isBoth_0 rfl ?_
  refine S_iload_n (pc := 1) dX9_isBoth_1 rfl ?_
  refine Y_Vi (pc := 2) (st := []) (kc' := 0) (ks' := 0) (ktX9_isClient r0 v1) mw_X9_isClient mv_X9_isClient w1581 (RO.mk rfl rfl rfl rfl) rfl rfl rfl dX9_isBoth_2 ⟨rfl, rfl⟩ (fun x_3 => ?_)
  refine S_ifeq (pc := 5) (tgt := 19) dX9_isBoth_5 (by decide) ?_ ?_
  · refine S_iconst (pc := 19) (v := (nI 0)) dX9_isBoth_19 kI_0 ?_
    exact S_zret (pc := 20) ⟨rfl, rfl⟩ rfl rfl dX9_isBoth_20
  · refine S_iload_n (pc := 8) dX9_isBoth_8 rfl ?_
    refine Y_Ti (pc := 9) (st := []) (kc' := 0) (ks' := 0) (ktX9_isVersion v2) mw_X9_isVersion w1214 w1213 (RO.mk rfl rfl rfl rfl) rfl rfl rfl dX9_isBoth_9 ⟨rfl, rfl⟩ (fun x_4 => ?_)
    refine S_ifeq (pc := 12) (tgt := 19) dX9_isBoth_12 (by decide) ?_ ?_
    · refine S_iconst (pc := 19) (v := (nI 0)) dX9_isBoth_19 kI_0 ?_
      exact S_zret (pc := 20) ⟨rfl, rfl⟩ rfl rfl dX9_isBoth_20
    · refine S_iconst (pc := 15) (v := (nI 1)) dX9_isBoth_15 kI_1 ?_
      refine S_goto (pc := 16) (tgt := 20) dX9_isBoth_16 (by decide) ?_
      exact S_zret (pc := 20) ⟨rfl, rfl⟩ rfl rfl dX9_isBoth_20
theorem ktX9_isBoth (r0 : Nat) (v1 : Int32) (v2 : Int32) : Ct mX9_isBoth rI [.ref r0, .int v1, .int v2] (fX9_isBoth r0 v1 v2) := Ct.of (z := 0) pn_X9 rfl rfl rfl (sX9_isBoth r0 v1 v2)
def mX9_compile : MI := (yX9_compile, cX9_compile, 3, (some .int), { frames := 9, cells := 0, slots := 0, locals := 224 }, [])
theorem mw_X9_compile : MW mX9_compile 2 := ⟨w1608, w11, ⟨by decide, by decide⟩, by decide +kernel⟩
theorem mv_X9_compile : MV mX9_compile 9 := ⟨_, rfl, w1606, w1607⟩
def fX9_compile_15  (r0 : Nat) (v1 : Int32) (v2 : Int32) (s0 : Nat) (s1 : Int32) : AH → Option (Int32 × AH) := fun h =>
  cv 9 s0 (fX9_refused s0 s1) h fun x_7 h =>
  if x_7 = 0 then (
    cv 9 r0 (fX9_takes r0 v1) h fun _ h =>
    cv 9 r0 (fX9_compiled r0 v2) h fun x_8 h =>
    some (x_8, h))
  else
  some ((nI 0), h)
def fX9_compile  (r0 : Nat) (v1 : Int32) (v2 : Int32) : AH → Option (Int32 × AH) := fun h =>
  cv 9 r0 (fX9_isBoth r0 v1 v2) h fun x_9 h =>
  if x_9 = 0 then (
    fX9_compile_15 r0 v1 v2 r0 (nI 1) h)
  else
  fX9_compile_15 r0 v1 v2 r0 (nI 0) h
theorem sX9_compile_15  (r0 : Nat) (v1 : Int32) (v2 : Int32) (s0 : Nat) (s1 : Int32) : Sm mX9_compile rI 0 0 15 [some (.ref r0), some (.int v1), some (.int v2)] [.int s1, .ref s0] (fX9_compile_15 r0 v1 v2 s0 s1) := by
  unfold fX9_compile_15
  refine Y_Vi (pc := 15) (st := []) (kc' := 0) (ks' := 0) (ktX9_refused s0 s1) mw_X9_refused mv_X9_refused w1415 (RO.mk rfl rfl rfl rfl) rfl rfl rfl dX9_compile_15 ⟨rfl, rfl⟩ (fun x_7 => ?_)
  refine S_ifeq (pc := 18) (tgt := 23) dX9_compile_18 (by decide) ?_ ?_
  · refine S_aload_n (pc := 23) dX9_compile_23 rfl ?_
    refine S_iload_n (pc := 24) dX9_compile_24 rfl ?_
    refine Y_Vv (pc := 25) (st := []) (kc' := 0) (ks' := 0) (ktX9_takes r0 v1) mw_X9_takes mv_X9_takes w1585 (RO.mk rfl rfl rfl rfl) rfl rfl rfl dX9_compile_25 ⟨rfl, rfl⟩ ?_
    refine S_aload_n (pc := 28) dX9_compile_28 rfl ?_
    refine S_iload_n (pc := 29) dX9_compile_29 rfl ?_
    refine Y_Vi (pc := 30) (st := []) (kc' := 0) (ks' := 0) (ktX9_compiled r0 v2) mw_X9_compiled mv_X9_compiled w1201 (RO.mk rfl rfl rfl rfl) rfl rfl rfl dX9_compile_30 ⟨rfl, rfl⟩ (fun x_8 => ?_)
    exact S_iret (pc := 33) ⟨rfl, rfl⟩ rfl rfl dX9_compile_33
  · refine S_iconst (pc := 21) (v := (nI 0)) dX9_compile_21 kI_0 ?_
    exact S_iret (pc := 22) ⟨rfl, rfl⟩ rfl rfl dX9_compile_22
theorem sX9_compile  (r0 : Nat) (v1 : Int32) (v2 : Int32) : Sm mX9_compile rI 0 0 0 [some (.ref r0), some (.int v1), some (.int v2)] [] (fX9_compile r0 v1 v2) := by
  unfold fX9_compile
  refine S_aload_n (pc := 0) dX9_compile_0 rfl ?_
  refine S_aload_n (pc := 1) dX9_compile_1 rfl ?_
  refine S_iload_n (pc := 2) dX9_compile_2 rfl ?_
  refine S_iload_n (pc := 3) dX9_compile_3 rfl ?_
  refine Y_Vi (pc := 4) (st := [.ref r0]) (kc' := 0) (ks' := 0) (ktX9_isBoth r0 v1 v2) mw_X9_isBoth mv_X9_isBoth w1609 (RO.mk rfl rfl rfl rfl) rfl rfl rfl dX9_compile_4 ⟨rfl, rfl⟩ (fun x_9 => ?_)
  refine S_ifeq (pc := 7) (tgt := 14) dX9_compile_7 (by decide) ?_ ?_
  · refine S_iconst (pc := 14) (v := (nI 1)) dX9_compile_14 kI_1 ?_
    exact (sX9_compile_15 r0 v1 v2 r0 (nI 1))
  · refine S_iconst (pc := 10) (v := (nI 0)) dX9_compile_10 kI_0 ?_
    refine S_goto (pc := 11) (tgt := 15) dX9_compile_11 (by decide) ?_
    exact (sX9_compile_15 r0 v1 v2 r0 (nI 0))
theorem ktX9_compile (r0 : Nat) (v1 : Int32) (v2 : Int32) : Ct mX9_compile rI [.ref r0, .int v1, .int v2] (fX9_compile r0 v1 v2) := Ct.of (z := 0) pn_X9 rfl rfl rfl (sX9_compile r0 v1 v2)
def mX9_copyVersion : MI := (yX9_copyVersion, cX9_copyVersion, 2, (some .int), { frames := 1, cells := 0, slots := 0, locals := 21 }, [])
theorem mw_X9_copyVersion : MW mX9_copyVersion 0 := ⟨w1485, w11, ⟨by decide, by decide⟩, by decide +kernel⟩
theorem mv_X9_copyVersion : MV mX9_copyVersion 9 := ⟨_, rfl, w1483, w1484⟩
def bX9_copyVersion_11  (k11 : Nat → Int32 → AH → Option (Int32 × AH)) (r0 : Nat) (v1 : Int32) : AH → Option (Int32 × AH) := fun h =>
  if (nI 481) ≤ v1 then (
    cv 9 r0 (fX9_memberMany r0 (nI 1)) h fun x_9 h =>
    some (x_9, h))
  else
  (gP 9 r0 0 h).bind fun a_10 =>
  (gP 9 r0 0 h).bind fun a_11 =>
  (ldI a_11 v1 h).bind fun x_12 =>
  (stI a_10 ((nI 481) + v1) x_12 h).bind fun h =>
  k11 r0 (v1 + (nI 1)) h
def lX9_copyVersion_11  : Nat → Nat → Int32 → AH → Option (Int32 × AH)
  | 0 => fun _ _ _ => none
  | n + 1 => bX9_copyVersion_11 (lX9_copyVersion_11 n)
def fX9_copyVersion  (r0 : Nat) : AH → Option (Int32 × AH) := fun h =>
  (pI 9 r0 3 (nI 0) h).bind fun h =>
  cv 9 r0 (fX9_saves r0) h fun _ h =>
  lX9_copyVersion_11 fuel r0 (nI 0) h
theorem sbX9_copyVersion_11  {k11 : Nat → Int32 → AH → Option (Int32 × AH)} (h11 : ∀ (r0 : Nat) (v1 : Int32), Sm mX9_copyVersion rI 0 0 11 [some (.ref r0), some (.int v1)] [] (k11 r0 v1)) (r0 : Nat) (v1 : Int32) : Sm mX9_copyVersion rI 0 0 11 [some (.ref r0), some (.int v1)] [] (bX9_copyVersion_11 k11 r0 v1) := by
  unfold bX9_copyVersion_11
  refine S_iload_n (pc := 11) dX9_copyVersion_11 rfl ?_
  refine S_sipush (pc := 12) (v := (nI 481)) dX9_copyVersion_12 kS_481 ?_
  refine S_icmpge (pc := 15) (tgt := 40) dX9_copyVersion_15 (by decide) ?_ ?_
  · refine S_aload_n (pc := 40) dX9_copyVersion_40 rfl ?_
    refine S_iconst (pc := 41) (v := (nI 1)) dX9_copyVersion_41 kI_1 ?_
    refine Y_Vi (pc := 42) (st := []) (kc' := 0) (ks' := 0) (ktX9_memberMany r0 (nI 1)) mw_X9_memberMany mv_X9_memberMany w1186 (RO.mk rfl rfl rfl rfl) rfl rfl rfl dX9_copyVersion_42 ⟨rfl, rfl⟩ (fun x_9 => ?_)
    exact S_iret (pc := 45) ⟨rfl, rfl⟩ rfl rfl dX9_copyVersion_45
  · refine S_aload_n (pc := 18) dX9_copyVersion_18 rfl ?_
    refine S_gP (pc := 19) fl_X9_7 rfl dX9_copyVersion_19 (fun a_10 => ?_)
    refine S_sipush (pc := 22) (v := (nI 481)) dX9_copyVersion_22 kS_481 ?_
    refine S_iload_n (pc := 25) dX9_copyVersion_25 rfl ?_
    refine S_iadd (pc := 26) dX9_copyVersion_26 ?_
    refine S_aload_n (pc := 27) dX9_copyVersion_27 rfl ?_
    refine S_gP (pc := 28) fl_X9_7 rfl dX9_copyVersion_28 (fun a_11 => ?_)
    refine S_iload_n (pc := 31) dX9_copyVersion_31 rfl ?_
    refine S_ldI (pc := 32) dX9_copyVersion_32 (fun x_12 => ?_)
    refine S_stI (pc := 33) dX9_copyVersion_33 ?_
    refine Z_iinc (pc := 34) (v := (nI 1)) (lv' := [some (.ref r0), some (.int (v1 + (nI 1)))]) dX9_copyVersion_34 rfl kI_1 rfl rfl rfl ?_
    refine S_goto (pc := 37) (tgt := 11) dX9_copyVersion_37 (by decide) ?_
    exact (h11 r0 (v1 + (nI 1)))
theorem sX9_copyVersion_11  : ∀ (n : Nat) (r0 : Nat) (v1 : Int32), Sm mX9_copyVersion rI 0 0 11 [some (.ref r0), some (.int v1)] [] (lX9_copyVersion_11 n r0 v1)
  | 0, _, _ => S_none
  | n + 1, r0, v1 => sbX9_copyVersion_11 (sX9_copyVersion_11 n) r0 v1
theorem sX9_copyVersion  (r0 : Nat) : Sm mX9_copyVersion rI 0 0 0 [some (.ref r0), none] [] (fX9_copyVersion r0) := by
  unfold fX9_copyVersion
  refine S_aload_n (pc := 0) dX9_copyVersion_0 rfl ?_
  refine S_iconst (pc := 1) (v := (nI 0)) dX9_copyVersion_1 kI_0 ?_
  refine S_pI (pc := 2) fl_X9_55 rfl rfl dX9_copyVersion_2 ?_
  refine S_aload_n (pc := 5) dX9_copyVersion_5 rfl ?_
  refine Y_Vv (pc := 6) (st := []) (kc' := 0) (ks' := 0) (ktX9_saves r0) mw_X9_saves mv_X9_saves w1431 (RO.mk rfl rfl rfl rfl) rfl rfl rfl dX9_copyVersion_6 ⟨rfl, rfl⟩ ?_
  refine S_iconst (pc := 9) (v := (nI 0)) dX9_copyVersion_9 kI_0 ?_
  refine Z_istore_n (pc := 10) (lv' := [some (.ref r0), some (.int (nI 0))]) dX9_copyVersion_10 rfl rfl rfl ?_
  exact (sX9_copyVersion_11 fuel r0 (nI 0))
theorem ktX9_copyVersion (r0 : Nat) : Ct mX9_copyVersion rI [.ref r0] (fX9_copyVersion r0) := Ct.of (z := 1) pn_X9 rfl rfl rfl (sX9_copyVersion r0)
def mX9_count : MI := (yX9_count, cX9_count, 4, (some .int), { frames := 11, cells := 0, slots := 0, locals := 269 }, [])
theorem mw_X9_count : MW mX9_count 1 := ⟨w1652, w11, ⟨by decide, by decide⟩, by decide +kernel⟩
theorem mv_X9_count : MV mX9_count 9 := ⟨_, rfl, w1650, w1651⟩
def fX9_count_54 (k27 : Nat → Int32 → Int32 → Int32 → AH → Option (Int32 × AH)) (r0 : Nat) (v1 : Int32) (v3 : Int32) (s0 : Int32) (s1 : Int32) : AH → Option (Int32 × AH) := fun h =>
  k27 r0 v1 (s0 + s1) (v3 + (nI 1)) h
def bX9_count_27  (k27 : Nat → Int32 → Int32 → Int32 → AH → Option (Int32 × AH)) (r0 : Nat) (v1 : Int32) (v2 : Int32) (v3 : Int32) : AH → Option (Int32 × AH) := fun h =>
  cv 9 r0 (fX9_clientMany r0) h fun x_9 h =>
  if x_9 ≤ v3 then (
    some (v2, h))
  else
  cv 9 r0 (fX9_takes r0 v3) h fun _ h =>
  cv 9 r0 (fX9_judged r0) h fun x_10 h =>
  if x_10 = v1 then (
    fX9_count_54 k27 r0 v1 v3 v2 (nI 1) h)
  else
  fX9_count_54 k27 r0 v1 v3 v2 (nI 0) h
def lX9_count_27  : Nat → Nat → Int32 → Int32 → Int32 → AH → Option (Int32 × AH)
  | 0 => fun _ _ _ _ _ => none
  | n + 1 => bX9_count_27 (lX9_count_27 n)
def fX9_count_15  (r0 : Nat) (v1 : Int32) (s0 : Nat) (s1 : Int32) : AH → Option (Int32 × AH) := fun h =>
  cv 9 s0 (fX9_refused s0 s1) h fun x_11 h =>
  if x_11 = 0 then (
    lX9_count_27 fuel r0 v1 (nI 0) (nI 0) h)
  else
  some ((nI 0), h)
def fX9_count  (r0 : Nat) (v1 : Int32) : AH → Option (Int32 × AH) := fun h =>
  bd (fX9_within v1 (nI 0) (nI 5) h) fun x_12 h =>
  if x_12 = 0 then (
    fX9_count_15 r0 v1 r0 (nI 1) h)
  else
  fX9_count_15 r0 v1 r0 (nI 0) h
theorem sX9_count_54 {k27 : Nat → Int32 → Int32 → Int32 → AH → Option (Int32 × AH)} (h27 : ∀ (r0 : Nat) (v1 : Int32) (v2 : Int32) (v3 : Int32), Sm mX9_count rI 0 0 27 [some (.ref r0), some (.int v1), some (.int v2), some (.int v3)] [] (k27 r0 v1 v2 v3)) (r0 : Nat) (v1 : Int32) (v3 : Int32) (s0 : Int32) (s1 : Int32) : Sm mX9_count rI 0 0 54 [some (.ref r0), some (.int v1), none, some (.int v3)] [.int s1, .int s0] (fX9_count_54 k27 r0 v1 v3 s0 s1) := by
  unfold fX9_count_54
  refine S_iadd (pc := 54) dX9_count_54 ?_
  refine Z_istore_n (pc := 55) (lv' := [some (.ref r0), some (.int v1), some (.int (s0 + s1)), some (.int v3)]) dX9_count_55 rfl rfl rfl ?_
  refine Z_iinc (pc := 56) (v := (nI 1)) (lv' := [some (.ref r0), some (.int v1), some (.int (s0 + s1)), some (.int (v3 + (nI 1)))]) dX9_count_56 rfl kI_1 rfl rfl rfl ?_
  refine S_goto (pc := 59) (tgt := 27) dX9_count_59 (by decide) ?_
  exact (h27 r0 v1 (s0 + s1) (v3 + (nI 1)))
theorem sbX9_count_27  {k27 : Nat → Int32 → Int32 → Int32 → AH → Option (Int32 × AH)} (h27 : ∀ (r0 : Nat) (v1 : Int32) (v2 : Int32) (v3 : Int32), Sm mX9_count rI 0 0 27 [some (.ref r0), some (.int v1), some (.int v2), some (.int v3)] [] (k27 r0 v1 v2 v3)) (r0 : Nat) (v1 : Int32) (v2 : Int32) (v3 : Int32) : Sm mX9_count rI 0 0 27 [some (.ref r0), some (.int v1), some (.int v2), some (.int v3)] [] (bX9_count_27 k27 r0 v1 v2 v3) := by
  unfold bX9_count_27
  refine S_iload_n (pc := 27) dX9_count_27 rfl ?_
  refine S_aload_n (pc := 28) dX9_count_28 rfl ?_
  refine Y_Vi (pc := 29) (st := [.int v3]) (kc' := 0) (ks' := 0) (ktX9_clientMany r0) mw_X9_clientMany mv_X9_clientMany w1334 (RO.mk rfl rfl rfl rfl) rfl rfl rfl dX9_count_29 ⟨rfl, rfl⟩ (fun x_9 => ?_)
  refine S_icmpge (pc := 32) (tgt := 62) dX9_count_32 (by decide) ?_ ?_
  · refine S_iload_n (pc := 62) dX9_count_62 rfl ?_
    exact S_iret (pc := 63) ⟨rfl, rfl⟩ rfl rfl dX9_count_63
  · refine S_aload_n (pc := 35) dX9_count_35 rfl ?_
    refine S_iload_n (pc := 36) dX9_count_36 rfl ?_
    refine Y_Vv (pc := 37) (st := []) (kc' := 0) (ks' := 0) (ktX9_takes r0 v3) mw_X9_takes mv_X9_takes w1585 (RO.mk rfl rfl rfl rfl) rfl rfl rfl dX9_count_37 ⟨rfl, rfl⟩ ?_
    refine S_iload_n (pc := 40) dX9_count_40 rfl ?_
    refine S_aload_n (pc := 41) dX9_count_41 rfl ?_
    refine Y_Vi (pc := 42) (st := [.int v2]) (kc' := 0) (ks' := 0) (ktX9_judged r0) mw_X9_judged mv_X9_judged w1641 (RO.mk rfl rfl rfl rfl) rfl rfl rfl dX9_count_42 ⟨rfl, rfl⟩ (fun x_10 => ?_)
    refine S_iload_n (pc := 45) dX9_count_45 rfl ?_
    refine S_icmpne (pc := 46) (tgt := 53) dX9_count_46 (by decide) ?_ ?_
    · refine S_iconst (pc := 53) (v := (nI 0)) dX9_count_53 kI_0 ?_
      exact (S_lv (lv0 := [some (.ref r0), some (.int v1), none, some (.int v3)]) (And.intro rfl (And.intro rfl (And.intro rfl trivial))) (sX9_count_54 h27 r0 v1 v3 v2 (nI 0)))
    · refine S_iconst (pc := 49) (v := (nI 1)) dX9_count_49 kI_1 ?_
      refine S_goto (pc := 50) (tgt := 54) dX9_count_50 (by decide) ?_
      exact (S_lv (lv0 := [some (.ref r0), some (.int v1), none, some (.int v3)]) (And.intro rfl (And.intro rfl (And.intro rfl trivial))) (sX9_count_54 h27 r0 v1 v3 v2 (nI 1)))
theorem sX9_count_27  : ∀ (n : Nat) (r0 : Nat) (v1 : Int32) (v2 : Int32) (v3 : Int32), Sm mX9_count rI 0 0 27 [some (.ref r0), some (.int v1), some (.int v2), some (.int v3)] [] (lX9_count_27 n r0 v1 v2 v3)
  | 0, _, _, _, _ => S_none
  | n + 1, r0, v1, v2, v3 => sbX9_count_27 (sX9_count_27 n) r0 v1 v2 v3
theorem sX9_count_15  (r0 : Nat) (v1 : Int32) (s0 : Nat) (s1 : Int32) : Sm mX9_count rI 0 0 15 [some (.ref r0), some (.int v1), none, none] [.int s1, .ref s0] (fX9_count_15 r0 v1 s0 s1) := by
  unfold fX9_count_15
  refine Y_Vi (pc := 15) (st := []) (kc' := 0) (ks' := 0) (ktX9_refused s0 s1) mw_X9_refused mv_X9_refused w1415 (RO.mk rfl rfl rfl rfl) rfl rfl rfl dX9_count_15 ⟨rfl, rfl⟩ (fun x_11 => ?_)
  refine S_ifeq (pc := 18) (tgt := 23) dX9_count_18 (by decide) ?_ ?_
  · refine S_iconst (pc := 23) (v := (nI 0)) dX9_count_23 kI_0 ?_
    refine Z_istore_n (pc := 24) (lv' := [some (.ref r0), some (.int v1), some (.int (nI 0)), none]) dX9_count_24 rfl rfl rfl ?_
    refine S_iconst (pc := 25) (v := (nI 0)) dX9_count_25 kI_0 ?_
    refine Z_istore_n (pc := 26) (lv' := [some (.ref r0), some (.int v1), some (.int (nI 0)), some (.int (nI 0))]) dX9_count_26 rfl rfl rfl ?_
    exact (sX9_count_27 fuel r0 v1 (nI 0) (nI 0))
  · refine S_iconst (pc := 21) (v := (nI 0)) dX9_count_21 kI_0 ?_
    exact S_iret (pc := 22) ⟨rfl, rfl⟩ rfl rfl dX9_count_22
theorem sX9_count  (r0 : Nat) (v1 : Int32) : Sm mX9_count rI 0 0 0 [some (.ref r0), some (.int v1), none, none] [] (fX9_count r0 v1) := by
  unfold fX9_count
  refine S_aload_n (pc := 0) dX9_count_0 rfl ?_
  refine S_iload_n (pc := 1) dX9_count_1 rfl ?_
  refine S_iconst (pc := 2) (v := (nI 0)) dX9_count_2 kI_0 ?_
  refine S_iconst (pc := 3) (v := (nI 5)) dX9_count_3 kI_5 ?_
  refine Y_Ti (pc := 4) (st := [.ref r0]) (kc' := 0) (ks' := 0) (ktX9_within v1 (nI 0) (nI 5)) mw_X9_within w1217 w1216 (RO.mk rfl rfl rfl rfl) rfl rfl rfl dX9_count_4 ⟨rfl, rfl⟩ (fun x_12 => ?_)
  refine S_ifeq (pc := 7) (tgt := 14) dX9_count_7 (by decide) ?_ ?_
  · refine S_iconst (pc := 14) (v := (nI 1)) dX9_count_14 kI_1 ?_
    exact (sX9_count_15 r0 v1 r0 (nI 1))
  · refine S_iconst (pc := 10) (v := (nI 0)) dX9_count_10 kI_0 ?_
    refine S_goto (pc := 11) (tgt := 15) dX9_count_11 (by decide) ?_
    exact (sX9_count_15 r0 v1 r0 (nI 0))
theorem ktX9_count (r0 : Nat) (v1 : Int32) : Ct mX9_count rI [.ref r0, .int v1] (fX9_count r0 v1) := Ct.of (z := 2) pn_X9 rfl rfl rfl (sX9_count r0 v1)
def mX9_mayBeAbove : MI := (yX9_mayBeAbove, cX9_mayBeAbove, 4, (some .boolean), { frames := 3, cells := 0, slots := 0, locals := 66 }, [])
theorem mw_X9_mayBeAbove : MW mX9_mayBeAbove 3 := ⟨w1426, w11, ⟨by decide, by decide⟩, by decide +kernel⟩
theorem mv_X9_mayBeAbove : MV mX9_mayBeAbove 9 := ⟨_, rfl, w1425, wp73⟩
def fX9_mayBeAbove  (r0 : Nat) (v1 : Int32) (v2 : Int32) (v3 : Int32) : AH → Option (Int32 × AH) := fun h =>
  if v2 ≤ v3 then (
    rz (nI 0) (nI 0) h)
  else
  cv 9 r0 (fX9_isClass r0 v1 v3) h fun x_4 h =>
  if x_4 = 0 then (
    rz (nI 0) (nI 0) h)
  else
  cv 9 r0 (fX9_isInterface r0 v1 v3) h fun x_5 h =>
  if x_5 = 0 then (
    cv 9 r0 (fX9_of r0 v1 v3 (nI 6)) h fun x_6 h =>
    if x_6 = 0 then (
      rz (nI 1) (nI 1) h)
    else
    rz (nI 0) (nI 0) h)
  else
  rz (nI 0) (nI 0) h
theorem sX9_mayBeAbove  (r0 : Nat) (v1 : Int32) (v2 : Int32) (v3 : Int32) : Sm mX9_mayBeAbove rI 0 0 0 [some (.ref r0), some (.int v1), some (.int v2), some (.int v3)] [] (fX9_mayBeAbove r0 v1 v2 v3) := by
  unfold fX9_mayBeAbove
  refine S_iload_n (pc := 0) dX9_mayBeAbove_0 rfl ?_
  refine S_iload_n (pc := 1) dX9_mayBeAbove_1 rfl ?_
  refine S_icmpge (pc := 2) (tgt := 38) dX9_mayBeAbove_2 (by decide) ?_ ?_
  · refine S_iconst (pc := 38) (v := (nI 0)) dX9_mayBeAbove_38 kI_0 ?_
    exact S_zret (pc := 39) ⟨rfl, rfl⟩ rfl rfl dX9_mayBeAbove_39
  · refine S_aload_n (pc := 5) dX9_mayBeAbove_5 rfl ?_
    refine S_iload_n (pc := 6) dX9_mayBeAbove_6 rfl ?_
    refine S_iload_n (pc := 7) dX9_mayBeAbove_7 rfl ?_
    refine Y_Vi (pc := 8) (st := []) (kc' := 0) (ks' := 0) (ktX9_isClass r0 v1 v3) mw_X9_isClass mv_X9_isClass w1209 (RO.mk rfl rfl rfl rfl) rfl rfl rfl dX9_mayBeAbove_8 ⟨rfl, rfl⟩ (fun x_4 => ?_)
    refine S_ifeq (pc := 11) (tgt := 38) dX9_mayBeAbove_11 (by decide) ?_ ?_
    · refine S_iconst (pc := 38) (v := (nI 0)) dX9_mayBeAbove_38 kI_0 ?_
      exact S_zret (pc := 39) ⟨rfl, rfl⟩ rfl rfl dX9_mayBeAbove_39
    · refine S_aload_n (pc := 14) dX9_mayBeAbove_14 rfl ?_
      refine S_iload_n (pc := 15) dX9_mayBeAbove_15 rfl ?_
      refine S_iload_n (pc := 16) dX9_mayBeAbove_16 rfl ?_
      refine Y_Vi (pc := 17) (st := []) (kc' := 0) (ks' := 0) (ktX9_isInterface r0 v1 v3) mw_X9_isInterface mv_X9_isInterface w1282 (RO.mk rfl rfl rfl rfl) rfl rfl rfl dX9_mayBeAbove_17 ⟨rfl, rfl⟩ (fun x_5 => ?_)
      refine S_ifne (pc := 20) (tgt := 38) dX9_mayBeAbove_20 (by decide) ?_ ?_
      · refine S_iconst (pc := 38) (v := (nI 0)) dX9_mayBeAbove_38 kI_0 ?_
        exact S_zret (pc := 39) ⟨rfl, rfl⟩ rfl rfl dX9_mayBeAbove_39
      · refine S_aload_n (pc := 23) dX9_mayBeAbove_23 rfl ?_
        refine S_iload_n (pc := 24) dX9_mayBeAbove_24 rfl ?_
        refine S_iload_n (pc := 25) dX9_mayBeAbove_25 rfl ?_
        refine S_bipush (pc := 26) (v := (nI 6)) dX9_mayBeAbove_26 kB_6 ?_
        refine Y_Vi (pc := 28) (st := []) (kc' := 0) (ks' := 0) (ktX9_of r0 v1 v3 (nI 6)) mw_X9_of mv_X9_of w1219 (RO.mk rfl rfl rfl rfl) rfl rfl rfl dX9_mayBeAbove_28 ⟨rfl, rfl⟩ (fun x_6 => ?_)
        refine S_ifne (pc := 31) (tgt := 38) dX9_mayBeAbove_31 (by decide) ?_ ?_
        · refine S_iconst (pc := 38) (v := (nI 0)) dX9_mayBeAbove_38 kI_0 ?_
          exact S_zret (pc := 39) ⟨rfl, rfl⟩ rfl rfl dX9_mayBeAbove_39
        · refine S_iconst (pc := 34) (v := (nI 1)) dX9_mayBeAbove_34 kI_1 ?_
          refine S_goto (pc := 35) (tgt := 39) dX9_mayBeAbove_35 (by decide) ?_
          exact S_zret (pc := 39) ⟨rfl, rfl⟩ rfl rfl dX9_mayBeAbove_39
theorem ktX9_mayBeAbove (r0 : Nat) (v1 : Int32) (v2 : Int32) (v3 : Int32) : Ct mX9_mayBeAbove rI [.ref r0, .int v1, .int v2, .int v3] (fX9_mayBeAbove r0 v1 v2 v3) := Ct.of (z := 0) pn_X9 rfl rfl rfl (sX9_mayBeAbove r0 v1 v2 v3)
def mX9_puts : MI := (yX9_puts, cX9_puts, 10, none, { frames := 1, cells := 0, slots := 0, locals := 21 }, [])
theorem mw_X9_puts : MW mX9_puts 8 := ⟨w1178, w11, ⟨by decide, by decide⟩, by decide +kernel⟩
theorem mv_X9_puts : MV mX9_puts 9 := ⟨_, rfl, w1177, wp34⟩
def fX9_puts_34  (r0 : Nat) (v4 : Int32) (v5 : Int32) (v6 : Int32) (v7 : Int32) (v8 : Int32) (v9 : Int32) (s0 : Nat) (s1 : Int32) (s2 : Int32) : AH → Option (Unit × AH) := fun h =>
  (stI s0 s1 s2 h).bind fun h =>
  (gP 9 r0 0 h).bind fun a_19 =>
  (stI a_19 (v9 + (nI 2)) v4 h).bind fun h =>
  (gP 9 r0 0 h).bind fun a_20 =>
  (stI a_20 (v9 + (nI 3)) v5 h).bind fun h =>
  (gP 9 r0 0 h).bind fun a_21 =>
  (stI a_21 (v9 + (nI 4)) v6 h).bind fun h =>
  (gP 9 r0 0 h).bind fun a_22 =>
  (stI a_22 (v9 + (nI 5)) v7 h).bind fun h =>
  (gP 9 r0 0 h).bind fun a_23 =>
  (stI a_23 (v9 + (nI 6)) (nI 0) h).bind fun h =>
  (gP 9 r0 0 h).bind fun a_24 =>
  (stI a_24 (v9 + (nI 7)) v8 h).bind fun h =>
  some ((), h)
def fX9_puts  (r0 : Nat) (v1 : Int32) (v2 : Int32) (v3 : Int32) (v4 : Int32) (v5 : Int32) (v6 : Int32) (v7 : Int32) (v8 : Int32) : AH → Option (Unit × AH) := fun h =>
  bd (fX9_at v1 v2 h) fun x_25 h =>
  (gP 9 r0 0 h).bind fun a_26 =>
  (stI a_26 (x_25 + (nI 0)) (nI 1) h).bind fun h =>
  (gP 9 r0 0 h).bind fun a_27 =>
  if v3 = 0 then (
    fX9_puts_34 r0 v4 v5 v6 v7 v8 x_25 a_27 (x_25 + (nI 1)) (nI 0) h)
  else
  fX9_puts_34 r0 v4 v5 v6 v7 v8 x_25 a_27 (x_25 + (nI 1)) (nI 1) h
theorem sX9_puts_34  (r0 : Nat) (v4 : Int32) (v5 : Int32) (v6 : Int32) (v7 : Int32) (v8 : Int32) (v9 : Int32) (s0 : Nat) (s1 : Int32) (s2 : Int32) : Sm mX9_puts rV 0 0 34 [some (.ref r0), none, none, none, some (.int v4), some (.int v5), some (.int v6), some (.int v7), some (.int v8), some (.int v9)] [.int s2, .int s1, .ref s0] (fX9_puts_34 r0 v4 v5 v6 v7 v8 v9 s0 s1 s2) := by
  unfold fX9_puts_34
  refine S_stI (pc := 34) dX9_puts_34 ?_
  refine S_aload_n (pc := 35) dX9_puts_35 rfl ?_
  refine S_gP (pc := 36) fl_X9_7 rfl dX9_puts_36 (fun a_19 => ?_)
  refine S_iload (pc := 39) dX9_puts_39 rfl ?_
  refine S_iconst (pc := 41) (v := (nI 2)) dX9_puts_41 kI_2 ?_
  refine S_iadd (pc := 42) dX9_puts_42 ?_
  refine S_iload (pc := 43) dX9_puts_43 rfl ?_
  refine S_stI (pc := 45) dX9_puts_45 ?_
  refine S_aload_n (pc := 46) dX9_puts_46 rfl ?_
  refine S_gP (pc := 47) fl_X9_7 rfl dX9_puts_47 (fun a_20 => ?_)
  refine S_iload (pc := 50) dX9_puts_50 rfl ?_
  refine S_iconst (pc := 52) (v := (nI 3)) dX9_puts_52 kI_3 ?_
  refine S_iadd (pc := 53) dX9_puts_53 ?_
  refine S_iload (pc := 54) dX9_puts_54 rfl ?_
  refine S_stI (pc := 56) dX9_puts_56 ?_
  refine S_aload_n (pc := 57) dX9_puts_57 rfl ?_
  refine S_gP (pc := 58) fl_X9_7 rfl dX9_puts_58 (fun a_21 => ?_)
  refine S_iload (pc := 61) dX9_puts_61 rfl ?_
  refine S_iconst (pc := 63) (v := (nI 4)) dX9_puts_63 kI_4 ?_
  refine S_iadd (pc := 64) dX9_puts_64 ?_
  refine S_iload (pc := 65) dX9_puts_65 rfl ?_
  refine S_stI (pc := 67) dX9_puts_67 ?_
  refine S_aload_n (pc := 68) dX9_puts_68 rfl ?_
  refine S_gP (pc := 69) fl_X9_7 rfl dX9_puts_69 (fun a_22 => ?_)
  refine S_iload (pc := 72) dX9_puts_72 rfl ?_
  refine S_iconst (pc := 74) (v := (nI 5)) dX9_puts_74 kI_5 ?_
  refine S_iadd (pc := 75) dX9_puts_75 ?_
  refine S_iload (pc := 76) dX9_puts_76 rfl ?_
  refine S_stI (pc := 78) dX9_puts_78 ?_
  refine S_aload_n (pc := 79) dX9_puts_79 rfl ?_
  refine S_gP (pc := 80) fl_X9_7 rfl dX9_puts_80 (fun a_23 => ?_)
  refine S_iload (pc := 83) dX9_puts_83 rfl ?_
  refine S_bipush (pc := 85) (v := (nI 6)) dX9_puts_85 kB_6 ?_
  refine S_iadd (pc := 87) dX9_puts_87 ?_
  refine S_iconst (pc := 88) (v := (nI 0)) dX9_puts_88 kI_0 ?_
  refine S_stI (pc := 89) dX9_puts_89 ?_
  refine S_aload_n (pc := 90) dX9_puts_90 rfl ?_
  refine S_gP (pc := 91) fl_X9_7 rfl dX9_puts_91 (fun a_24 => ?_)
  refine S_iload (pc := 94) dX9_puts_94 rfl ?_
  refine S_bipush (pc := 96) (v := (nI 7)) dX9_puts_96 kB_7 ?_
  refine S_iadd (pc := 98) dX9_puts_98 ?_
  refine S_iload (pc := 99) dX9_puts_99 rfl ?_
  refine S_stI (pc := 101) dX9_puts_101 ?_
  exact S_vret (pc := 102) ⟨rfl, rfl⟩ rfl rfl dX9_puts_102
theorem sX9_puts  (r0 : Nat) (v1 : Int32) (v2 : Int32) (v3 : Int32) (v4 : Int32) (v5 : Int32) (v6 : Int32) (v7 : Int32) (v8 : Int32) : Sm mX9_puts rV 0 0 0 [some (.ref r0), some (.int v1), some (.int v2), some (.int v3), some (.int v4), some (.int v5), some (.int v6), some (.int v7), some (.int v8), none] [] (fX9_puts r0 v1 v2 v3 v4 v5 v6 v7 v8) := by
  unfold fX9_puts
  refine S_iload_n (pc := 0) dX9_puts_0 rfl ?_
  refine S_iload_n (pc := 1) dX9_puts_1 rfl ?_
  refine Y_Ti (pc := 2) (st := []) (kc' := 0) (ks' := 0) (ktX9_at v1 v2) mw_X9_at w1180 w1179 (RO.mk rfl rfl rfl rfl) rfl rfl rfl dX9_puts_2 ⟨rfl, rfl⟩ (fun x_25 => ?_)
  refine Z_istore (pc := 5) (lv' := [some (.ref r0), some (.int v1), some (.int v2), some (.int v3), some (.int v4), some (.int v5), some (.int v6), some (.int v7), some (.int v8), some (.int x_25)]) dX9_puts_5 rfl rfl rfl ?_
  refine S_aload_n (pc := 7) dX9_puts_7 rfl ?_
  refine S_gP (pc := 8) fl_X9_7 rfl dX9_puts_8 (fun a_26 => ?_)
  refine S_iload (pc := 11) dX9_puts_11 rfl ?_
  refine S_iconst (pc := 13) (v := (nI 0)) dX9_puts_13 kI_0 ?_
  refine S_iadd (pc := 14) dX9_puts_14 ?_
  refine S_iconst (pc := 15) (v := (nI 1)) dX9_puts_15 kI_1 ?_
  refine S_stI (pc := 16) dX9_puts_16 ?_
  refine S_aload_n (pc := 17) dX9_puts_17 rfl ?_
  refine S_gP (pc := 18) fl_X9_7 rfl dX9_puts_18 (fun a_27 => ?_)
  refine S_iload (pc := 21) dX9_puts_21 rfl ?_
  refine S_iconst (pc := 23) (v := (nI 1)) dX9_puts_23 kI_1 ?_
  refine S_iadd (pc := 24) dX9_puts_24 ?_
  refine S_iload_n (pc := 25) dX9_puts_25 rfl ?_
  refine S_ifeq (pc := 26) (tgt := 33) dX9_puts_26 (by decide) ?_ ?_
  · refine S_iconst (pc := 33) (v := (nI 0)) dX9_puts_33 kI_0 ?_
    exact (S_lv (lv0 := [some (.ref r0), none, none, none, some (.int v4), some (.int v5), some (.int v6), some (.int v7), some (.int v8), some (.int x_25)]) (And.intro rfl (And.intro rfl (And.intro rfl (And.intro rfl (And.intro rfl (And.intro rfl (And.intro rfl trivial))))))) (sX9_puts_34 r0 v4 v5 v6 v7 v8 x_25 a_27 (x_25 + (nI 1)) (nI 0)))
  · refine S_iconst (pc := 29) (v := (nI 1)) dX9_puts_29 kI_1 ?_
    refine S_goto (pc := 30) (tgt := 34) dX9_puts_30 (by decide) ?_
    exact (S_lv (lv0 := [some (.ref r0), none, none, none, some (.int v4), some (.int v5), some (.int v6), some (.int v7), some (.int v8), some (.int x_25)]) (And.intro rfl (And.intro rfl (And.intro rfl (And.intro rfl (And.intro rfl (And.intro rfl (And.intro rfl trivial))))))) (sX9_puts_34 r0 v4 v5 v6 v7 v8 x_25 a_27 (x_25 + (nI 1)) (nI 1)))
theorem ktX9_puts (r0 : Nat) (v1 : Int32) (v2 : Int32) (v3 : Int32) (v4 : Int32) (v5 : Int32) (v6 : Int32) (v7 : Int32) (v8 : Int32) : Ct mX9_puts rV [.ref r0, .int v1, .int v2, .int v3, .int v4, .int v5, .int v6, .int v7, .int v8] (fX9_puts r0 v1 v2 v3 v4 v5 v6 v7 v8) := Ct.of (z := 1) pn_X9 rfl rfl rfl (sX9_puts r0 v1 v2 v3 v4 v5 v6 v7 v8)
def mX9_define : MI := (yX9_define, cX9_define, 8, (some .int), { frames := 4, cells := 0, slots := 0, locals := 91 }, [])
theorem mw_X9_define : MW mX9_define 5 := ⟨w1422, w11, ⟨by decide, by decide⟩, by decide +kernel⟩
theorem mv_X9_define : MV mX9_define 9 := ⟨_, rfl, w1420, w1421⟩
def fX9_define_136  (r0 : Nat) (v1 : Int32) (s0 : Nat) (s1 : Int32) (s2 : Int32) (s3 : Int32) (s4 : Int32) (s5 : Int32) (s6 : Int32) (s7 : Int32) (s8 : Int32) : AH → Option (Int32 × AH) := fun h =>
  cv 9 s0 (fX9_puts s0 s1 s2 s3 s4 s5 s6 s7 s8) h fun _ h =>
  cv 9 r0 (fX9_classMany r0 v1) h fun x_15 h =>
  some (x_15, h)
def fX9_define_123  (r0 : Nat) (v1 : Int32) (v3 : Int32) (v5 : Int32) (s0 : Nat) (s1 : Int32) (s2 : Int32) (s3 : Int32) (s4 : Int32) : AH → Option (Int32 × AH) := fun h =>
  if v3 = 0 then (
    fX9_define_136 r0 v1 s0 s1 s2 s3 s4 v5 (nI 0) (nI 0) (nI 0) h)
  else
  fX9_define_136 r0 v1 s0 s1 s2 s3 s4 v5 (nI 0) (nI 0) (nI 1) h
def fX9_define_97  (r0 : Nat) (v1 : Int32) (v2 : Int32) (v3 : Int32) (v4 : Int32) (v5 : Int32) (s0 : Nat) (s1 : Int32) : AH → Option (Int32 × AH) := fun h =>
  cv 9 s0 (fX9_refused s0 s1) h fun x_16 h =>
  if x_16 = 0 then (
    cv 9 r0 (fX9_saves r0) h fun _ h =>
    if v3 = 0 then (
      fX9_define_123 r0 v1 v3 v5 r0 v1 v2 v3 v4 h)
    else
    fX9_define_123 r0 v1 v3 v5 r0 v1 v2 v3 (nI 0) h)
  else
  some ((nI 0), h)
def fX9_define_60  (r0 : Nat) (v1 : Int32) (v2 : Int32) (v3 : Int32) (v4 : Int32) (v5 : Int32) (v6 : Int32) (s0 : Int32) : AH → Option (Int32 × AH) := fun h =>
  if v6 = 0 then (
    fX9_define_97 r0 v1 v2 v3 v4 v5 r0 (nI 1) h)
  else
  if s0 = 0 then (
    fX9_define_97 r0 v1 v2 v3 v4 v5 r0 (nI 2) h)
  else
  cv 9 r0 (fX9_of r0 v1 v2 (nI 0)) h fun x_17 h =>
  if x_17 = (nI 1) then (
    fX9_define_97 r0 v1 v2 v3 v4 v5 r0 (nI 3) h)
  else
  fX9_define_97 r0 v1 v2 v3 v4 v5 r0 (nI 0) h
def fX9_define_59  (r0 : Nat) (v1 : Int32) (v2 : Int32) (v3 : Int32) (v4 : Int32) (v5 : Int32) (v6 : Int32) : AH → Option (Int32 × AH) := fun h =>
  fX9_define_60 r0 v1 v2 v3 v4 v5 v6 (nI 0) h
def fX9_define_44  (r0 : Nat) (v1 : Int32) (v2 : Int32) (v3 : Int32) (v4 : Int32) (v5 : Int32) (v6 : Int32) : AH → Option (Int32 × AH) := fun h =>
  cv 9 r0 (fX9_areInterfaces r0 v1 v2 v5) h fun x_18 h =>
  if x_18 = 0 then (
    fX9_define_59 r0 v1 v2 v3 v4 v5 v6 h)
  else
  fX9_define_60 r0 v1 v2 v3 v4 v5 v6 (nI 1) h
def fX9_define_22  (r0 : Nat) (v1 : Int32) (v2 : Int32) (v3 : Int32) (v4 : Int32) (v5 : Int32) (s0 : Int32) : AH → Option (Int32 × AH) := fun h =>
  if s0 = 0 then (
    fX9_define_59 r0 v1 v2 v3 v4 v5 s0 h)
  else
  if v3 = 0 then (
    cv 9 r0 (fX9_mayBeAbove r0 v1 v2 v4) h fun x_19 h =>
    if x_19 = 0 then (
      fX9_define_59 r0 v1 v2 v3 v4 v5 s0 h)
    else
    fX9_define_44 r0 v1 v2 v3 v4 v5 s0 h)
  else
  fX9_define_44 r0 v1 v2 v3 v4 v5 s0 h
def fX9_define_21  (r0 : Nat) (v1 : Int32) (v2 : Int32) (v3 : Int32) (v4 : Int32) (v5 : Int32) : AH → Option (Int32 × AH) := fun h =>
  fX9_define_22 r0 v1 v2 v3 v4 v5 (nI 0) h
def fX9_define  (r0 : Nat) (v1 : Int32) (v2 : Int32) (v3 : Int32) (v4 : Int32) (v5 : Int32) : AH → Option (Int32 × AH) := fun h =>
  bd (fX9_isVersion v1 h) fun x_20 h =>
  if x_20 = 0 then (
    fX9_define_21 r0 v1 v2 v3 v4 v5 h)
  else
  bd (fX9_within v2 (nI 1) (nI 9) h) fun x_21 h =>
  if x_21 = 0 then (
    fX9_define_21 r0 v1 v2 v3 v4 v5 h)
  else
  fX9_define_22 r0 v1 v2 v3 v4 v5 (nI 1) h
theorem sX9_define_136  (r0 : Nat) (v1 : Int32) (s0 : Nat) (s1 : Int32) (s2 : Int32) (s3 : Int32) (s4 : Int32) (s5 : Int32) (s6 : Int32) (s7 : Int32) (s8 : Int32) : Sm mX9_define rI 0 0 136 [some (.ref r0), some (.int v1), none, none, none, none, none, none] [.int s8, .int s7, .int s6, .int s5, .int s4, .int s3, .int s2, .int s1, .ref s0] (fX9_define_136 r0 v1 s0 s1 s2 s3 s4 s5 s6 s7 s8) := by
  unfold fX9_define_136
  refine Y_Vv (pc := 136) (st := []) (kc' := 0) (ks' := 0) (ktX9_puts s0 s1 s2 s3 s4 s5 s6 s7 s8) mw_X9_puts mv_X9_puts w1175 (RO.mk rfl rfl rfl rfl) rfl rfl rfl dX9_define_136 ⟨rfl, rfl⟩ ?_
  refine S_aload_n (pc := 139) dX9_define_139 rfl ?_
  refine S_iload_n (pc := 140) dX9_define_140 rfl ?_
  refine Y_Vi (pc := 141) (st := []) (kc' := 0) (ks' := 0) (ktX9_classMany r0 v1) mw_X9_classMany mv_X9_classMany w1435 (RO.mk rfl rfl rfl rfl) rfl rfl rfl dX9_define_141 ⟨rfl, rfl⟩ (fun x_15 => ?_)
  exact S_iret (pc := 144) ⟨rfl, rfl⟩ rfl rfl dX9_define_144
theorem sX9_define_123  (r0 : Nat) (v1 : Int32) (v3 : Int32) (v5 : Int32) (s0 : Nat) (s1 : Int32) (s2 : Int32) (s3 : Int32) (s4 : Int32) : Sm mX9_define rI 0 0 123 [some (.ref r0), some (.int v1), none, some (.int v3), none, some (.int v5), none, none] [.int s4, .int s3, .int s2, .int s1, .ref s0] (fX9_define_123 r0 v1 v3 v5 s0 s1 s2 s3 s4) := by
  unfold fX9_define_123
  refine S_iload (pc := 123) dX9_define_123 rfl ?_
  refine S_iconst (pc := 125) (v := (nI 0)) dX9_define_125 kI_0 ?_
  refine S_iconst (pc := 126) (v := (nI 0)) dX9_define_126 kI_0 ?_
  refine S_iload_n (pc := 127) dX9_define_127 rfl ?_
  refine S_ifeq (pc := 128) (tgt := 135) dX9_define_128 (by decide) ?_ ?_
  · refine S_iconst (pc := 135) (v := (nI 0)) dX9_define_135 kI_0 ?_
    exact (S_lv (lv0 := [some (.ref r0), some (.int v1), none, none, none, none, none, none]) (And.intro rfl (And.intro rfl trivial)) (sX9_define_136 r0 v1 s0 s1 s2 s3 s4 v5 (nI 0) (nI 0) (nI 0)))
  · refine S_iconst (pc := 131) (v := (nI 1)) dX9_define_131 kI_1 ?_
    refine S_goto (pc := 132) (tgt := 136) dX9_define_132 (by decide) ?_
    exact (S_lv (lv0 := [some (.ref r0), some (.int v1), none, none, none, none, none, none]) (And.intro rfl (And.intro rfl trivial)) (sX9_define_136 r0 v1 s0 s1 s2 s3 s4 v5 (nI 0) (nI 0) (nI 1)))
theorem sX9_define_97  (r0 : Nat) (v1 : Int32) (v2 : Int32) (v3 : Int32) (v4 : Int32) (v5 : Int32) (s0 : Nat) (s1 : Int32) : Sm mX9_define rI 0 0 97 [some (.ref r0), some (.int v1), some (.int v2), some (.int v3), some (.int v4), some (.int v5), none, none] [.int s1, .ref s0] (fX9_define_97 r0 v1 v2 v3 v4 v5 s0 s1) := by
  unfold fX9_define_97
  refine Y_Vi (pc := 97) (st := []) (kc' := 0) (ks' := 0) (ktX9_refused s0 s1) mw_X9_refused mv_X9_refused w1415 (RO.mk rfl rfl rfl rfl) rfl rfl rfl dX9_define_97 ⟨rfl, rfl⟩ (fun x_16 => ?_)
  refine S_ifeq (pc := 100) (tgt := 105) dX9_define_100 (by decide) ?_ ?_
  · refine S_aload_n (pc := 105) dX9_define_105 rfl ?_
    refine Y_Vv (pc := 106) (st := []) (kc' := 0) (ks' := 0) (ktX9_saves r0) mw_X9_saves mv_X9_saves w1431 (RO.mk rfl rfl rfl rfl) rfl rfl rfl dX9_define_106 ⟨rfl, rfl⟩ ?_
    refine S_aload_n (pc := 109) dX9_define_109 rfl ?_
    refine S_iload_n (pc := 110) dX9_define_110 rfl ?_
    refine S_iload_n (pc := 111) dX9_define_111 rfl ?_
    refine S_iload_n (pc := 112) dX9_define_112 rfl ?_
    refine S_iload_n (pc := 113) dX9_define_113 rfl ?_
    refine S_ifeq (pc := 114) (tgt := 121) dX9_define_114 (by decide) ?_ ?_
    · refine S_iload (pc := 121) dX9_define_121 rfl ?_
      exact (S_lv (lv0 := [some (.ref r0), some (.int v1), none, some (.int v3), none, some (.int v5), none, none]) (And.intro rfl (And.intro rfl (And.intro rfl (And.intro rfl trivial)))) (sX9_define_123 r0 v1 v3 v5 r0 v1 v2 v3 v4))
    · refine S_iconst (pc := 117) (v := (nI 0)) dX9_define_117 kI_0 ?_
      refine S_goto (pc := 118) (tgt := 123) dX9_define_118 (by decide) ?_
      exact (S_lv (lv0 := [some (.ref r0), some (.int v1), none, some (.int v3), none, some (.int v5), none, none]) (And.intro rfl (And.intro rfl (And.intro rfl (And.intro rfl trivial)))) (sX9_define_123 r0 v1 v3 v5 r0 v1 v2 v3 (nI 0)))
  · refine S_iconst (pc := 103) (v := (nI 0)) dX9_define_103 kI_0 ?_
    exact S_iret (pc := 104) ⟨rfl, rfl⟩ rfl rfl dX9_define_104
theorem sX9_define_60  (r0 : Nat) (v1 : Int32) (v2 : Int32) (v3 : Int32) (v4 : Int32) (v5 : Int32) (v6 : Int32) (s0 : Int32) : Sm mX9_define rI 0 0 60 [some (.ref r0), some (.int v1), some (.int v2), some (.int v3), some (.int v4), some (.int v5), some (.int v6), none] [.int s0] (fX9_define_60 r0 v1 v2 v3 v4 v5 v6 s0) := by
  unfold fX9_define_60
  refine Z_istore (pc := 60) (lv' := [some (.ref r0), some (.int v1), some (.int v2), some (.int v3), some (.int v4), some (.int v5), some (.int v6), some (.int s0)]) dX9_define_60 rfl rfl rfl ?_
  refine S_aload_n (pc := 62) dX9_define_62 rfl ?_
  refine S_iload (pc := 63) dX9_define_63 rfl ?_
  refine S_ifne (pc := 65) (tgt := 72) dX9_define_65 (by decide) ?_ ?_
  · refine S_iload (pc := 72) dX9_define_72 rfl ?_
    refine S_ifne (pc := 74) (tgt := 81) dX9_define_74 (by decide) ?_ ?_
    · refine S_aload_n (pc := 81) dX9_define_81 rfl ?_
      refine S_iload_n (pc := 82) dX9_define_82 rfl ?_
      refine S_iload_n (pc := 83) dX9_define_83 rfl ?_
      refine S_iconst (pc := 84) (v := (nI 0)) dX9_define_84 kI_0 ?_
      refine Y_Vi (pc := 85) (st := [.ref r0]) (kc' := 0) (ks' := 0) (ktX9_of r0 v1 v2 (nI 0)) mw_X9_of mv_X9_of w1219 (RO.mk rfl rfl rfl rfl) rfl rfl rfl dX9_define_85 ⟨rfl, rfl⟩ (fun x_17 => ?_)
      refine S_iconst (pc := 88) (v := (nI 1)) dX9_define_88 kI_1 ?_
      refine S_icmpne (pc := 89) (tgt := 96) dX9_define_89 (by decide) ?_ ?_
      · refine S_iconst (pc := 96) (v := (nI 0)) dX9_define_96 kI_0 ?_
        exact (S_lv (lv0 := [some (.ref r0), some (.int v1), some (.int v2), some (.int v3), some (.int v4), some (.int v5), none, none]) (And.intro rfl (And.intro rfl (And.intro rfl (And.intro rfl (And.intro rfl (And.intro rfl trivial)))))) (sX9_define_97 r0 v1 v2 v3 v4 v5 r0 (nI 0)))
      · refine S_iconst (pc := 92) (v := (nI 3)) dX9_define_92 kI_3 ?_
        refine S_goto (pc := 93) (tgt := 97) dX9_define_93 (by decide) ?_
        exact (S_lv (lv0 := [some (.ref r0), some (.int v1), some (.int v2), some (.int v3), some (.int v4), some (.int v5), none, none]) (And.intro rfl (And.intro rfl (And.intro rfl (And.intro rfl (And.intro rfl (And.intro rfl trivial)))))) (sX9_define_97 r0 v1 v2 v3 v4 v5 r0 (nI 3)))
    · refine S_iconst (pc := 77) (v := (nI 2)) dX9_define_77 kI_2 ?_
      refine S_goto (pc := 78) (tgt := 97) dX9_define_78 (by decide) ?_
      exact (S_lv (lv0 := [some (.ref r0), some (.int v1), some (.int v2), some (.int v3), some (.int v4), some (.int v5), none, none]) (And.intro rfl (And.intro rfl (And.intro rfl (And.intro rfl (And.intro rfl (And.intro rfl trivial)))))) (sX9_define_97 r0 v1 v2 v3 v4 v5 r0 (nI 2)))
  · refine S_iconst (pc := 68) (v := (nI 1)) dX9_define_68 kI_1 ?_
    refine S_goto (pc := 69) (tgt := 97) dX9_define_69 (by decide) ?_
    exact (S_lv (lv0 := [some (.ref r0), some (.int v1), some (.int v2), some (.int v3), some (.int v4), some (.int v5), none, none]) (And.intro rfl (And.intro rfl (And.intro rfl (And.intro rfl (And.intro rfl (And.intro rfl trivial)))))) (sX9_define_97 r0 v1 v2 v3 v4 v5 r0 (nI 1)))
theorem sX9_define_59  (r0 : Nat) (v1 : Int32) (v2 : Int32) (v3 : Int32) (v4 : Int32) (v5 : Int32) (v6 : Int32) : Sm mX9_define rI 0 0 59 [some (.ref r0), some (.int v1), some (.int v2), some (.int v3), some (.int v4), some (.int v5), some (.int v6), none] [] (fX9_define_59 r0 v1 v2 v3 v4 v5 v6) := by
  unfold fX9_define_59
  refine S_iconst (pc := 59) (v := (nI 0)) dX9_define_59 kI_0 ?_
  exact (sX9_define_60 r0 v1 v2 v3 v4 v5 v6 (nI 0))
theorem sX9_define_44  (r0 : Nat) (v1 : Int32) (v2 : Int32) (v3 : Int32) (v4 : Int32) (v5 : Int32) (v6 : Int32) : Sm mX9_define rI 0 0 44 [some (.ref r0), some (.int v1), some (.int v2), some (.int v3), some (.int v4), some (.int v5), some (.int v6), none] [] (fX9_define_44 r0 v1 v2 v3 v4 v5 v6) := by
  unfold fX9_define_44
  refine S_aload_n (pc := 44) dX9_define_44 rfl ?_
  refine S_iload_n (pc := 45) dX9_define_45 rfl ?_
  refine S_iload_n (pc := 46) dX9_define_46 rfl ?_
  refine S_iload (pc := 47) dX9_define_47 rfl ?_
  refine Y_Vi (pc := 49) (st := []) (kc' := 0) (ks' := 0) (ktX9_areInterfaces r0 v1 v2 v5) mw_X9_areInterfaces mv_X9_areInterfaces w1427 (RO.mk rfl rfl rfl rfl) rfl rfl rfl dX9_define_49 ⟨rfl, rfl⟩ (fun x_18 => ?_)
  refine S_ifeq (pc := 52) (tgt := 59) dX9_define_52 (by decide) ?_ ?_
  · exact (sX9_define_59 r0 v1 v2 v3 v4 v5 v6)
  · refine S_iconst (pc := 55) (v := (nI 1)) dX9_define_55 kI_1 ?_
    refine S_goto (pc := 56) (tgt := 60) dX9_define_56 (by decide) ?_
    exact (sX9_define_60 r0 v1 v2 v3 v4 v5 v6 (nI 1))
theorem sX9_define_22  (r0 : Nat) (v1 : Int32) (v2 : Int32) (v3 : Int32) (v4 : Int32) (v5 : Int32) (s0 : Int32) : Sm mX9_define rI 0 0 22 [some (.ref r0), some (.int v1), some (.int v2), some (.int v3), some (.int v4), some (.int v5), none, none] [.int s0] (fX9_define_22 r0 v1 v2 v3 v4 v5 s0) := by
  unfold fX9_define_22
  refine Z_istore (pc := 22) (lv' := [some (.ref r0), some (.int v1), some (.int v2), some (.int v3), some (.int v4), some (.int v5), some (.int s0), none]) dX9_define_22 rfl rfl rfl ?_
  refine S_iload (pc := 24) dX9_define_24 rfl ?_
  refine S_ifeq (pc := 26) (tgt := 59) dX9_define_26 (by decide) ?_ ?_
  · exact (sX9_define_59 r0 v1 v2 v3 v4 v5 s0)
  · refine S_iload_n (pc := 29) dX9_define_29 rfl ?_
    refine S_ifne (pc := 30) (tgt := 44) dX9_define_30 (by decide) ?_ ?_
    · exact (sX9_define_44 r0 v1 v2 v3 v4 v5 s0)
    · refine S_aload_n (pc := 33) dX9_define_33 rfl ?_
      refine S_iload_n (pc := 34) dX9_define_34 rfl ?_
      refine S_iload_n (pc := 35) dX9_define_35 rfl ?_
      refine S_iload (pc := 36) dX9_define_36 rfl ?_
      refine Y_Vi (pc := 38) (st := []) (kc' := 0) (ks' := 0) (ktX9_mayBeAbove r0 v1 v2 v4) mw_X9_mayBeAbove mv_X9_mayBeAbove w1423 (RO.mk rfl rfl rfl rfl) rfl rfl rfl dX9_define_38 ⟨rfl, rfl⟩ (fun x_19 => ?_)
      refine S_ifeq (pc := 41) (tgt := 59) dX9_define_41 (by decide) ?_ ?_
      · exact (sX9_define_59 r0 v1 v2 v3 v4 v5 s0)
      · exact (sX9_define_44 r0 v1 v2 v3 v4 v5 s0)
theorem sX9_define_21  (r0 : Nat) (v1 : Int32) (v2 : Int32) (v3 : Int32) (v4 : Int32) (v5 : Int32) : Sm mX9_define rI 0 0 21 [some (.ref r0), some (.int v1), some (.int v2), some (.int v3), some (.int v4), some (.int v5), none, none] [] (fX9_define_21 r0 v1 v2 v3 v4 v5) := by
  unfold fX9_define_21
  refine S_iconst (pc := 21) (v := (nI 0)) dX9_define_21 kI_0 ?_
  exact (sX9_define_22 r0 v1 v2 v3 v4 v5 (nI 0))
theorem sX9_define  (r0 : Nat) (v1 : Int32) (v2 : Int32) (v3 : Int32) (v4 : Int32) (v5 : Int32) : Sm mX9_define rI 0 0 0 [some (.ref r0), some (.int v1), some (.int v2), some (.int v3), some (.int v4), some (.int v5), none, none] [] (fX9_define r0 v1 v2 v3 v4 v5) := by
  unfold fX9_define
  refine S_iload_n (pc := 0) dX9_define_0 rfl ?_
  refine Y_Ti (pc := 1) (st := []) (kc' := 0) (ks' := 0) (ktX9_isVersion v1) mw_X9_isVersion w1214 w1213 (RO.mk rfl rfl rfl rfl) rfl rfl rfl dX9_define_1 ⟨rfl, rfl⟩ (fun x_20 => ?_)
  refine S_ifeq (pc := 4) (tgt := 21) dX9_define_4 (by decide) ?_ ?_
  · exact (sX9_define_21 r0 v1 v2 v3 v4 v5)
  · refine S_iload_n (pc := 7) dX9_define_7 rfl ?_
    refine S_iconst (pc := 8) (v := (nI 1)) dX9_define_8 kI_1 ?_
    refine S_bipush (pc := 9) (v := (nI 9)) dX9_define_9 kB_9 ?_
    refine Y_Ti (pc := 11) (st := []) (kc' := 0) (ks' := 0) (ktX9_within v2 (nI 1) (nI 9)) mw_X9_within w1217 w1216 (RO.mk rfl rfl rfl rfl) rfl rfl rfl dX9_define_11 ⟨rfl, rfl⟩ (fun x_21 => ?_)
    refine S_ifeq (pc := 14) (tgt := 21) dX9_define_14 (by decide) ?_ ?_
    · exact (sX9_define_21 r0 v1 v2 v3 v4 v5)
    · refine S_iconst (pc := 17) (v := (nI 1)) dX9_define_17 kI_1 ?_
      refine S_goto (pc := 18) (tgt := 22) dX9_define_18 (by decide) ?_
      exact (sX9_define_22 r0 v1 v2 v3 v4 v5 (nI 1))
theorem ktX9_define (r0 : Nat) (v1 : Int32) (v2 : Int32) (v3 : Int32) (v4 : Int32) (v5 : Int32) : Ct mX9_define rI [.ref r0, .int v1, .int v2, .int v3, .int v4, .int v5] (fX9_define r0 v1 v2 v3 v4 v5) := Ct.of (z := 2) pn_X9 rfl rfl rfl (sX9_define r0 v1 v2 v3 v4 v5)
def mX9_draft : MI := (yX9_draft, cX9_draft, 7, (some .int), { frames := 1, cells := 0, slots := 0, locals := 22 }, [])
theorem mw_X9_draft : MW mX9_draft 4 := ⟨w1489, w11, ⟨by decide, by decide⟩, by decide +kernel⟩
theorem mv_X9_draft : MV mX9_draft 9 := ⟨_, rfl, w1487, w1488⟩
def fX9_draft_131  (v6 : Int32) (s0 : Nat) (s1 : Int32) (s2 : Int32) : AH → Option (Int32 × AH) := fun h =>
  (stI s0 s1 s2 h).bind fun h =>
  some (v6, h)
def fX9_draft_113  (r0 : Nat) (v2 : Int32) (v4 : Int32) (v6 : Int32) (s0 : Nat) (s1 : Int32) (s2 : Int32) : AH → Option (Int32 × AH) := fun h =>
  (stI s0 s1 s2 h).bind fun h =>
  (gP 9 r0 4 h).bind fun a_23 =>
  if v2 ≤ (nI 1) then (
    fX9_draft_131 v6 a_23 (nI 3) (-2 : Int32) h)
  else
  fX9_draft_131 v6 a_23 (nI 3) v4 h
def fX9_draft_68  (r0 : Nat) (v1 : Int32) (v2 : Int32) (v3 : Int32) (v4 : Int32) (s0 : Nat) (s1 : Int32) : AH → Option (Int32 × AH) := fun h =>
  cv 9 s0 (fX9_refused s0 s1) h fun x_24 h =>
  if x_24 = 0 then (
    (gP 9 r0 4 h).bind fun a_25 =>
    (ldI a_25 (nI 1) h).bind fun x_26 =>
    (gP 9 r0 4 h).bind fun a_27 =>
    (stI a_27 (nI 0) v1 h).bind fun h =>
    (gP 9 r0 4 h).bind fun a_28 =>
    (stI a_28 (nI 1) v2 h).bind fun h =>
    (gP 9 r0 4 h).bind fun a_29 =>
    if v2 ≤ 0 then (
      fX9_draft_113 r0 v2 v4 x_26 a_29 (nI 2) (-2 : Int32) h)
    else
    fX9_draft_113 r0 v2 v4 x_26 a_29 (nI 2) v3 h)
  else
  some ((nI 0), h)
def fX9_draft_55  (r0 : Nat) (v1 : Int32) (v2 : Int32) (v3 : Int32) (v4 : Int32) (s0 : Int32) : AH → Option (Int32 × AH) := fun h =>
  if s0 = 0 then (
    fX9_draft_68 r0 v1 v2 v3 v4 r0 (nI 1) h)
  else
  fX9_draft_68 r0 v1 v2 v3 v4 r0 (nI 0) h
def fX9_draft_54  (r0 : Nat) (v1 : Int32) (v2 : Int32) (v3 : Int32) (v4 : Int32) : AH → Option (Int32 × AH) := fun h =>
  fX9_draft_55 r0 v1 v2 v3 v4 (nI 0) h
def fX9_draft_34  (r0 : Nat) (v1 : Int32) (v2 : Int32) (v3 : Int32) (v4 : Int32) : AH → Option (Int32 × AH) := fun h =>
  if v2 < (nI 2) then (
    fX9_draft_55 r0 v1 v2 v3 v4 (nI 1) h)
  else
  bd (fX9_within v4 (-1 : Int32) (nI 9) h) fun x_30 h =>
  if x_30 = 0 then (
    fX9_draft_54 r0 v1 v2 v3 v4 h)
  else
  fX9_draft_55 r0 v1 v2 v3 v4 (nI 1) h
def fX9_draft  (r0 : Nat) (v1 : Int32) (v2 : Int32) (v3 : Int32) (v4 : Int32) : AH → Option (Int32 × AH) := fun h =>
  bd (fX9_within v2 (nI 0) (nI 2) h) fun x_31 h =>
  if x_31 = 0 then (
    fX9_draft_54 r0 v1 v2 v3 v4 h)
  else
  bd (fX9_within v1 (-1 : Int32) (nI 9) h) fun x_32 h =>
  if x_32 = 0 then (
    fX9_draft_54 r0 v1 v2 v3 v4 h)
  else
  if v2 < (nI 1) then (
    fX9_draft_34 r0 v1 v2 v3 v4 h)
  else
  bd (fX9_within v3 (-1 : Int32) (nI 9) h) fun x_33 h =>
  if x_33 = 0 then (
    fX9_draft_54 r0 v1 v2 v3 v4 h)
  else
  fX9_draft_34 r0 v1 v2 v3 v4 h
theorem sX9_draft_131  (v6 : Int32) (s0 : Nat) (s1 : Int32) (s2 : Int32) : Sm mX9_draft rI 0 0 131 [none, none, none, none, none, none, some (.int v6)] [.int s2, .int s1, .ref s0] (fX9_draft_131 v6 s0 s1 s2) := by
  unfold fX9_draft_131
  refine S_stI (pc := 131) dX9_draft_131 ?_
  refine S_iload (pc := 132) dX9_draft_132 rfl ?_
  exact S_iret (pc := 134) ⟨rfl, rfl⟩ rfl rfl dX9_draft_134
theorem sX9_draft_113  (r0 : Nat) (v2 : Int32) (v4 : Int32) (v6 : Int32) (s0 : Nat) (s1 : Int32) (s2 : Int32) : Sm mX9_draft rI 0 0 113 [some (.ref r0), none, some (.int v2), none, some (.int v4), none, some (.int v6)] [.int s2, .int s1, .ref s0] (fX9_draft_113 r0 v2 v4 v6 s0 s1 s2) := by
  unfold fX9_draft_113
  refine S_stI (pc := 113) dX9_draft_113 ?_
  refine S_aload_n (pc := 114) dX9_draft_114 rfl ?_
  refine S_gP (pc := 115) fl_X9_16 rfl dX9_draft_115 (fun a_23 => ?_)
  refine S_iconst (pc := 118) (v := (nI 3)) dX9_draft_118 kI_3 ?_
  refine S_iload_n (pc := 119) dX9_draft_119 rfl ?_
  refine S_iconst (pc := 120) (v := (nI 1)) dX9_draft_120 kI_1 ?_
  refine S_icmple (pc := 121) (tgt := 129) dX9_draft_121 (by decide) ?_ ?_
  · refine S_bipush (pc := 129) (v := (-2 : Int32)) dX9_draft_129 kB_m2 ?_
    exact (S_lv (lv0 := [none, none, none, none, none, none, some (.int v6)]) (And.intro rfl trivial) (sX9_draft_131 v6 a_23 (nI 3) (-2 : Int32)))
  · refine S_iload (pc := 124) dX9_draft_124 rfl ?_
    refine S_goto (pc := 126) (tgt := 131) dX9_draft_126 (by decide) ?_
    exact (S_lv (lv0 := [none, none, none, none, none, none, some (.int v6)]) (And.intro rfl trivial) (sX9_draft_131 v6 a_23 (nI 3) v4))
theorem sX9_draft_68  (r0 : Nat) (v1 : Int32) (v2 : Int32) (v3 : Int32) (v4 : Int32) (s0 : Nat) (s1 : Int32) : Sm mX9_draft rI 0 0 68 [some (.ref r0), some (.int v1), some (.int v2), some (.int v3), some (.int v4), none, none] [.int s1, .ref s0] (fX9_draft_68 r0 v1 v2 v3 v4 s0 s1) := by
  unfold fX9_draft_68
  refine Y_Vi (pc := 68) (st := []) (kc' := 0) (ks' := 0) (ktX9_refused s0 s1) mw_X9_refused mv_X9_refused w1415 (RO.mk rfl rfl rfl rfl) rfl rfl rfl dX9_draft_68 ⟨rfl, rfl⟩ (fun x_24 => ?_)
  refine S_ifeq (pc := 71) (tgt := 76) dX9_draft_71 (by decide) ?_ ?_
  · refine S_aload_n (pc := 76) dX9_draft_76 rfl ?_
    refine S_gP (pc := 77) fl_X9_16 rfl dX9_draft_77 (fun a_25 => ?_)
    refine S_iconst (pc := 80) (v := (nI 1)) dX9_draft_80 kI_1 ?_
    refine S_ldI (pc := 81) dX9_draft_81 (fun x_26 => ?_)
    refine Z_istore (pc := 82) (lv' := [some (.ref r0), some (.int v1), some (.int v2), some (.int v3), some (.int v4), none, some (.int x_26)]) dX9_draft_82 rfl rfl rfl ?_
    refine S_aload_n (pc := 84) dX9_draft_84 rfl ?_
    refine S_gP (pc := 85) fl_X9_16 rfl dX9_draft_85 (fun a_27 => ?_)
    refine S_iconst (pc := 88) (v := (nI 0)) dX9_draft_88 kI_0 ?_
    refine S_iload_n (pc := 89) dX9_draft_89 rfl ?_
    refine S_stI (pc := 90) dX9_draft_90 ?_
    refine S_aload_n (pc := 91) dX9_draft_91 rfl ?_
    refine S_gP (pc := 92) fl_X9_16 rfl dX9_draft_92 (fun a_28 => ?_)
    refine S_iconst (pc := 95) (v := (nI 1)) dX9_draft_95 kI_1 ?_
    refine S_iload_n (pc := 96) dX9_draft_96 rfl ?_
    refine S_stI (pc := 97) dX9_draft_97 ?_
    refine S_aload_n (pc := 98) dX9_draft_98 rfl ?_
    refine S_gP (pc := 99) fl_X9_16 rfl dX9_draft_99 (fun a_29 => ?_)
    refine S_iconst (pc := 102) (v := (nI 2)) dX9_draft_102 kI_2 ?_
    refine S_iload_n (pc := 103) dX9_draft_103 rfl ?_
    refine S_ifle (pc := 104) (tgt := 111) dX9_draft_104 (by decide) ?_ ?_
    · refine S_bipush (pc := 111) (v := (-2 : Int32)) dX9_draft_111 kB_m2 ?_
      exact (S_lv (lv0 := [some (.ref r0), none, some (.int v2), none, some (.int v4), none, some (.int x_26)]) (And.intro rfl (And.intro rfl (And.intro rfl (And.intro rfl trivial)))) (sX9_draft_113 r0 v2 v4 x_26 a_29 (nI 2) (-2 : Int32)))
    · refine S_iload_n (pc := 107) dX9_draft_107 rfl ?_
      refine S_goto (pc := 108) (tgt := 113) dX9_draft_108 (by decide) ?_
      exact (S_lv (lv0 := [some (.ref r0), none, some (.int v2), none, some (.int v4), none, some (.int x_26)]) (And.intro rfl (And.intro rfl (And.intro rfl (And.intro rfl trivial)))) (sX9_draft_113 r0 v2 v4 x_26 a_29 (nI 2) v3))
  · refine S_iconst (pc := 74) (v := (nI 0)) dX9_draft_74 kI_0 ?_
    exact S_iret (pc := 75) ⟨rfl, rfl⟩ rfl rfl dX9_draft_75
theorem sX9_draft_55  (r0 : Nat) (v1 : Int32) (v2 : Int32) (v3 : Int32) (v4 : Int32) (s0 : Int32) : Sm mX9_draft rI 0 0 55 [some (.ref r0), some (.int v1), some (.int v2), some (.int v3), some (.int v4), none, none] [.int s0] (fX9_draft_55 r0 v1 v2 v3 v4 s0) := by
  unfold fX9_draft_55
  refine Z_istore (pc := 55) (lv' := [some (.ref r0), some (.int v1), some (.int v2), some (.int v3), some (.int v4), some (.int s0), none]) dX9_draft_55 rfl rfl rfl ?_
  refine S_aload_n (pc := 57) dX9_draft_57 rfl ?_
  refine S_iload (pc := 58) dX9_draft_58 rfl ?_
  refine S_ifeq (pc := 60) (tgt := 67) dX9_draft_60 (by decide) ?_ ?_
  · refine S_iconst (pc := 67) (v := (nI 1)) dX9_draft_67 kI_1 ?_
    exact (S_lv (lv0 := [some (.ref r0), some (.int v1), some (.int v2), some (.int v3), some (.int v4), none, none]) (And.intro rfl (And.intro rfl (And.intro rfl (And.intro rfl (And.intro rfl trivial))))) (sX9_draft_68 r0 v1 v2 v3 v4 r0 (nI 1)))
  · refine S_iconst (pc := 63) (v := (nI 0)) dX9_draft_63 kI_0 ?_
    refine S_goto (pc := 64) (tgt := 68) dX9_draft_64 (by decide) ?_
    exact (S_lv (lv0 := [some (.ref r0), some (.int v1), some (.int v2), some (.int v3), some (.int v4), none, none]) (And.intro rfl (And.intro rfl (And.intro rfl (And.intro rfl (And.intro rfl trivial))))) (sX9_draft_68 r0 v1 v2 v3 v4 r0 (nI 0)))
theorem sX9_draft_54  (r0 : Nat) (v1 : Int32) (v2 : Int32) (v3 : Int32) (v4 : Int32) : Sm mX9_draft rI 0 0 54 [some (.ref r0), some (.int v1), some (.int v2), some (.int v3), some (.int v4), none, none] [] (fX9_draft_54 r0 v1 v2 v3 v4) := by
  unfold fX9_draft_54
  refine S_iconst (pc := 54) (v := (nI 0)) dX9_draft_54 kI_0 ?_
  exact (sX9_draft_55 r0 v1 v2 v3 v4 (nI 0))
theorem sX9_draft_34  (r0 : Nat) (v1 : Int32) (v2 : Int32) (v3 : Int32) (v4 : Int32) : Sm mX9_draft rI 0 0 34 [some (.ref r0), some (.int v1), some (.int v2), some (.int v3), some (.int v4), none, none] [] (fX9_draft_34 r0 v1 v2 v3 v4) := by
  unfold fX9_draft_34
  refine S_iload_n (pc := 34) dX9_draft_34 rfl ?_
  refine S_iconst (pc := 35) (v := (nI 2)) dX9_draft_35 kI_2 ?_
  refine S_icmplt (pc := 36) (tgt := 50) dX9_draft_36 (by decide) ?_ ?_
  · refine S_iconst (pc := 50) (v := (nI 1)) dX9_draft_50 kI_1 ?_
    refine S_goto (pc := 51) (tgt := 55) dX9_draft_51 (by decide) ?_
    exact (sX9_draft_55 r0 v1 v2 v3 v4 (nI 1))
  · refine S_iload (pc := 39) dX9_draft_39 rfl ?_
    refine S_iconst (pc := 41) (v := (-1 : Int32)) dX9_draft_41 kI_m1 ?_
    refine S_bipush (pc := 42) (v := (nI 9)) dX9_draft_42 kB_9 ?_
    refine Y_Ti (pc := 44) (st := []) (kc' := 0) (ks' := 0) (ktX9_within v4 (-1 : Int32) (nI 9)) mw_X9_within w1217 w1216 (RO.mk rfl rfl rfl rfl) rfl rfl rfl dX9_draft_44 ⟨rfl, rfl⟩ (fun x_30 => ?_)
    refine S_ifeq (pc := 47) (tgt := 54) dX9_draft_47 (by decide) ?_ ?_
    · exact (sX9_draft_54 r0 v1 v2 v3 v4)
    · refine S_iconst (pc := 50) (v := (nI 1)) dX9_draft_50 kI_1 ?_
      refine S_goto (pc := 51) (tgt := 55) dX9_draft_51 (by decide) ?_
      exact (sX9_draft_55 r0 v1 v2 v3 v4 (nI 1))
theorem sX9_draft  (r0 : Nat) (v1 : Int32) (v2 : Int32) (v3 : Int32) (v4 : Int32) : Sm mX9_draft rI 0 0 0 [some (.ref r0), some (.int v1), some (.int v2), some (.int v3), some (.int v4), none, none] [] (fX9_draft r0 v1 v2 v3 v4) := by
  unfold fX9_draft
  refine S_iload_n (pc := 0) dX9_draft_0 rfl ?_
  refine S_iconst (pc := 1) (v := (nI 0)) dX9_draft_1 kI_0 ?_
  refine S_iconst (pc := 2) (v := (nI 2)) dX9_draft_2 kI_2 ?_
  refine Y_Ti (pc := 3) (st := []) (kc' := 0) (ks' := 0) (ktX9_within v2 (nI 0) (nI 2)) mw_X9_within w1217 w1216 (RO.mk rfl rfl rfl rfl) rfl rfl rfl dX9_draft_3 ⟨rfl, rfl⟩ (fun x_31 => ?_)
  refine S_ifeq (pc := 6) (tgt := 54) dX9_draft_6 (by decide) ?_ ?_
  · exact (sX9_draft_54 r0 v1 v2 v3 v4)
  · refine S_iload_n (pc := 9) dX9_draft_9 rfl ?_
    refine S_iconst (pc := 10) (v := (-1 : Int32)) dX9_draft_10 kI_m1 ?_
    refine S_bipush (pc := 11) (v := (nI 9)) dX9_draft_11 kB_9 ?_
    refine Y_Ti (pc := 13) (st := []) (kc' := 0) (ks' := 0) (ktX9_within v1 (-1 : Int32) (nI 9)) mw_X9_within w1217 w1216 (RO.mk rfl rfl rfl rfl) rfl rfl rfl dX9_draft_13 ⟨rfl, rfl⟩ (fun x_32 => ?_)
    refine S_ifeq (pc := 16) (tgt := 54) dX9_draft_16 (by decide) ?_ ?_
    · exact (sX9_draft_54 r0 v1 v2 v3 v4)
    · refine S_iload_n (pc := 19) dX9_draft_19 rfl ?_
      refine S_iconst (pc := 20) (v := (nI 1)) dX9_draft_20 kI_1 ?_
      refine S_icmplt (pc := 21) (tgt := 34) dX9_draft_21 (by decide) ?_ ?_
      · exact (sX9_draft_34 r0 v1 v2 v3 v4)
      · refine S_iload_n (pc := 24) dX9_draft_24 rfl ?_
        refine S_iconst (pc := 25) (v := (-1 : Int32)) dX9_draft_25 kI_m1 ?_
        refine S_bipush (pc := 26) (v := (nI 9)) dX9_draft_26 kB_9 ?_
        refine Y_Ti (pc := 28) (st := []) (kc' := 0) (ks' := 0) (ktX9_within v3 (-1 : Int32) (nI 9)) mw_X9_within w1217 w1216 (RO.mk rfl rfl rfl rfl) rfl rfl rfl dX9_draft_28 ⟨rfl, rfl⟩ (fun x_33 => ?_)
        refine S_ifeq (pc := 31) (tgt := 54) dX9_draft_31 (by decide) ?_ ?_
        · exact (sX9_draft_54 r0 v1 v2 v3 v4)
        · exact (sX9_draft_34 r0 v1 v2 v3 v4)
theorem ktX9_draft (r0 : Nat) (v1 : Int32) (v2 : Int32) (v3 : Int32) (v4 : Int32) : Ct mX9_draft rI [.ref r0, .int v1, .int v2, .int v3, .int v4] (fX9_draft r0 v1 v2 v3 v4) := Ct.of (z := 2) pn_X9 rfl rfl rfl (sX9_draft r0 v1 v2 v3 v4)
def mX9_drops : MI := (yX9_drops, cX9_drops, 4, none, { frames := 1, cells := 0, slots := 0, locals := 21 }, [])
theorem mw_X9_drops : MW mX9_drops 2 := ⟨w1450, w11, ⟨by decide, by decide⟩, by decide +kernel⟩
theorem mv_X9_drops : MV mX9_drops 9 := ⟨_, rfl, w1449, wp78⟩
def bX9_drops_6  (k6 : Nat → Int32 → Int32 → AH → Option (Unit × AH)) (r0 : Nat) (v1 : Int32) (v3 : Int32) : AH → Option (Unit × AH) := fun h =>
  cv 9 r0 (fX9_memberMany r0 v1) h fun x_17 h =>
  bd (fX9_member v1 (x_17 - (nI 1)) h) fun x_18 h =>
  if x_18 ≤ v3 then (
    (gP 9 r0 0 h).bind fun a_19 =>
    (ldI a_19 (((nI 481) * v1) + (nI 80)) h).bind fun x_20 =>
    (stI a_19 (((nI 481) * v1) + (nI 80)) (x_20 - (nI 1)) h).bind fun h =>
    some ((), h))
  else
  (gP 9 r0 0 h).bind fun a_21 =>
  (gP 9 r0 0 h).bind fun a_22 =>
  (ldI a_22 (v3 + (nI 10)) h).bind fun x_23 =>
  (stI a_21 v3 x_23 h).bind fun h =>
  k6 r0 v1 (v3 + (nI 1)) h
def lX9_drops_6  : Nat → Nat → Int32 → Int32 → AH → Option (Unit × AH)
  | 0 => fun _ _ _ _ => none
  | n + 1 => bX9_drops_6 (lX9_drops_6 n)
def fX9_drops  (r0 : Nat) (v1 : Int32) (v2 : Int32) : AH → Option (Unit × AH) := fun h =>
  bd (fX9_member v1 v2 h) fun x_24 h =>
  lX9_drops_6 fuel r0 v1 x_24 h
theorem sbX9_drops_6  {k6 : Nat → Int32 → Int32 → AH → Option (Unit × AH)} (h6 : ∀ (r0 : Nat) (v1 : Int32) (v3 : Int32), Sm mX9_drops rV 0 0 6 [some (.ref r0), some (.int v1), none, some (.int v3)] [] (k6 r0 v1 v3)) (r0 : Nat) (v1 : Int32) (v3 : Int32) : Sm mX9_drops rV 0 0 6 [some (.ref r0), some (.int v1), none, some (.int v3)] [] (bX9_drops_6 k6 r0 v1 v3) := by
  unfold bX9_drops_6
  refine S_iload_n (pc := 6) dX9_drops_6 rfl ?_
  refine S_iload_n (pc := 7) dX9_drops_7 rfl ?_
  refine S_aload_n (pc := 8) dX9_drops_8 rfl ?_
  refine S_iload_n (pc := 9) dX9_drops_9 rfl ?_
  refine Y_Vi (pc := 10) (st := [.int v1, .int v3]) (kc' := 0) (ks' := 0) (ktX9_memberMany r0 v1) mw_X9_memberMany mv_X9_memberMany w1186 (RO.mk rfl rfl rfl rfl) rfl rfl rfl dX9_drops_10 ⟨rfl, rfl⟩ (fun x_17 => ?_)
  refine S_iconst (pc := 13) (v := (nI 1)) dX9_drops_13 kI_1 ?_
  refine S_isub (pc := 14) dX9_drops_14 ?_
  refine Y_Ti (pc := 15) (st := [.int v3]) (kc' := 0) (ks' := 0) (ktX9_member v1 (x_17 - (nI 1))) mw_X9_member w1191 w1190 (RO.mk rfl rfl rfl rfl) rfl rfl rfl dX9_drops_15 ⟨rfl, rfl⟩ (fun x_18 => ?_)
  refine S_icmpge (pc := 18) (tgt := 42) dX9_drops_18 (by decide) ?_ ?_
  · refine S_aload_n (pc := 42) dX9_drops_42 rfl ?_
    refine S_gP (pc := 43) fl_X9_7 rfl dX9_drops_43 (fun a_19 => ?_)
    refine S_sipush (pc := 46) (v := (nI 481)) dX9_drops_46 kS_481 ?_
    refine S_iload_n (pc := 49) dX9_drops_49 rfl ?_
    refine S_imul (pc := 50) dX9_drops_50 ?_
    refine S_bipush (pc := 51) (v := (nI 80)) dX9_drops_51 kB_80 ?_
    refine S_iadd (pc := 53) dX9_drops_53 ?_
    refine S_dup2 (pc := 54) rfl rfl dX9_drops_54 ?_
    refine S_ldI (pc := 55) dX9_drops_55 (fun x_20 => ?_)
    refine S_iconst (pc := 56) (v := (nI 1)) dX9_drops_56 kI_1 ?_
    refine S_isub (pc := 57) dX9_drops_57 ?_
    refine S_stI (pc := 58) dX9_drops_58 ?_
    exact S_vret (pc := 59) ⟨rfl, rfl⟩ rfl rfl dX9_drops_59
  · refine S_aload_n (pc := 21) dX9_drops_21 rfl ?_
    refine S_gP (pc := 22) fl_X9_7 rfl dX9_drops_22 (fun a_21 => ?_)
    refine S_iload_n (pc := 25) dX9_drops_25 rfl ?_
    refine S_aload_n (pc := 26) dX9_drops_26 rfl ?_
    refine S_gP (pc := 27) fl_X9_7 rfl dX9_drops_27 (fun a_22 => ?_)
    refine S_iload_n (pc := 30) dX9_drops_30 rfl ?_
    refine S_bipush (pc := 31) (v := (nI 10)) dX9_drops_31 kB_10 ?_
    refine S_iadd (pc := 33) dX9_drops_33 ?_
    refine S_ldI (pc := 34) dX9_drops_34 (fun x_23 => ?_)
    refine S_stI (pc := 35) dX9_drops_35 ?_
    refine Z_iinc (pc := 36) (v := (nI 1)) (lv' := [some (.ref r0), some (.int v1), none, some (.int (v3 + (nI 1)))]) dX9_drops_36 rfl kI_1 rfl rfl rfl ?_
    refine S_goto (pc := 39) (tgt := 6) dX9_drops_39 (by decide) ?_
    exact (h6 r0 v1 (v3 + (nI 1)))
theorem sX9_drops_6  : ∀ (n : Nat) (r0 : Nat) (v1 : Int32) (v3 : Int32), Sm mX9_drops rV 0 0 6 [some (.ref r0), some (.int v1), none, some (.int v3)] [] (lX9_drops_6 n r0 v1 v3)
  | 0, _, _, _ => S_none
  | n + 1, r0, v1, v3 => sbX9_drops_6 (sX9_drops_6 n) r0 v1 v3
theorem sX9_drops  (r0 : Nat) (v1 : Int32) (v2 : Int32) : Sm mX9_drops rV 0 0 0 [some (.ref r0), some (.int v1), some (.int v2), none] [] (fX9_drops r0 v1 v2) := by
  unfold fX9_drops
  refine S_iload_n (pc := 0) dX9_drops_0 rfl ?_
  refine S_iload_n (pc := 1) dX9_drops_1 rfl ?_
  refine Y_Ti (pc := 2) (st := []) (kc' := 0) (ks' := 0) (ktX9_member v1 v2) mw_X9_member w1191 w1190 (RO.mk rfl rfl rfl rfl) rfl rfl rfl dX9_drops_2 ⟨rfl, rfl⟩ (fun x_24 => ?_)
  refine Z_istore_n (pc := 5) (lv' := [some (.ref r0), some (.int v1), some (.int v2), some (.int x_24)]) dX9_drops_5 rfl rfl rfl ?_
  exact (S_lv (lv0 := [some (.ref r0), some (.int v1), none, some (.int x_24)]) (And.intro rfl (And.intro rfl (And.intro rfl trivial))) (sX9_drops_6 fuel r0 v1 x_24))
theorem ktX9_drops (r0 : Nat) (v1 : Int32) (v2 : Int32) : Ct mX9_drops rV [.ref r0, .int v1, .int v2] (fX9_drops r0 v1 v2) := Ct.of (z := 1) pn_X9 rfl rfl rfl (sX9_drops r0 v1 v2)
def mX9_exists : MI := (yX9_exists, cX9_exists, 3, (some .boolean), { frames := 2, cells := 0, slots := 0, locals := 44 }, [])
theorem mw_X9_exists : MW mX9_exists 2 := ⟨w1473, w11, ⟨by decide, by decide⟩, by decide +kernel⟩
theorem mv_X9_exists : MV mX9_exists 9 := ⟨_, rfl, w1471, w1472⟩
def fX9_exists_23  (r0 : Nat) (v1 : Int32) (v2 : Int32) (s0 : Nat) (s1 : Int32) : AH → Option (Int32 × AH) := fun h =>
  cv 9 s0 (fX9_refused s0 s1) h fun x_9 h =>
  if x_9 = 0 then (
    cv 9 r0 (fX9_of r0 v1 v2 (nI 0)) h fun x_10 h =>
    if x_10 = (nI 1) then (
      rz (nI 1) (nI 1) h)
    else
    rz (nI 0) (nI 0) h)
  else
  rz (nI 0) (nI 0) h
def fX9_exists  (r0 : Nat) (v1 : Int32) (v2 : Int32) : AH → Option (Int32 × AH) := fun h =>
  bd (fX9_isVersion v1 h) fun x_11 h =>
  if x_11 = 0 then (
    fX9_exists_23 r0 v1 v2 r0 (nI 1) h)
  else
  bd (fX9_within v2 (nI 0) (nI 9) h) fun x_12 h =>
  if x_12 = 0 then (
    fX9_exists_23 r0 v1 v2 r0 (nI 1) h)
  else
  fX9_exists_23 r0 v1 v2 r0 (nI 0) h
theorem sX9_exists_23  (r0 : Nat) (v1 : Int32) (v2 : Int32) (s0 : Nat) (s1 : Int32) : Sm mX9_exists rI 0 0 23 [some (.ref r0), some (.int v1), some (.int v2)] [.int s1, .ref s0] (fX9_exists_23 r0 v1 v2 s0 s1) := by
  unfold fX9_exists_23
  refine Y_Vi (pc := 23) (st := []) (kc' := 0) (ks' := 0) (ktX9_refused s0 s1) mw_X9_refused mv_X9_refused w1415 (RO.mk rfl rfl rfl rfl) rfl rfl rfl dX9_exists_23 ⟨rfl, rfl⟩ (fun x_9 => ?_)
  refine S_ifne (pc := 26) (tgt := 44) dX9_exists_26 (by decide) ?_ ?_
  · refine S_iconst (pc := 44) (v := (nI 0)) dX9_exists_44 kI_0 ?_
    exact S_zret (pc := 45) ⟨rfl, rfl⟩ rfl rfl dX9_exists_45
  · refine S_aload_n (pc := 29) dX9_exists_29 rfl ?_
    refine S_iload_n (pc := 30) dX9_exists_30 rfl ?_
    refine S_iload_n (pc := 31) dX9_exists_31 rfl ?_
    refine S_iconst (pc := 32) (v := (nI 0)) dX9_exists_32 kI_0 ?_
    refine Y_Vi (pc := 33) (st := []) (kc' := 0) (ks' := 0) (ktX9_of r0 v1 v2 (nI 0)) mw_X9_of mv_X9_of w1219 (RO.mk rfl rfl rfl rfl) rfl rfl rfl dX9_exists_33 ⟨rfl, rfl⟩ (fun x_10 => ?_)
    refine S_iconst (pc := 36) (v := (nI 1)) dX9_exists_36 kI_1 ?_
    refine S_icmpne (pc := 37) (tgt := 44) dX9_exists_37 (by decide) ?_ ?_
    · refine S_iconst (pc := 44) (v := (nI 0)) dX9_exists_44 kI_0 ?_
      exact S_zret (pc := 45) ⟨rfl, rfl⟩ rfl rfl dX9_exists_45
    · refine S_iconst (pc := 40) (v := (nI 1)) dX9_exists_40 kI_1 ?_
      refine S_goto (pc := 41) (tgt := 45) dX9_exists_41 (by decide) ?_
      exact S_zret (pc := 45) ⟨rfl, rfl⟩ rfl rfl dX9_exists_45
theorem sX9_exists  (r0 : Nat) (v1 : Int32) (v2 : Int32) : Sm mX9_exists rI 0 0 0 [some (.ref r0), some (.int v1), some (.int v2)] [] (fX9_exists r0 v1 v2) := by
  unfold fX9_exists
  refine S_aload_n (pc := 0) dX9_exists_0 rfl ?_
  refine S_iload_n (pc := 1) dX9_exists_1 rfl ?_
  refine Y_Ti (pc := 2) (st := [.ref r0]) (kc' := 0) (ks' := 0) (ktX9_isVersion v1) mw_X9_isVersion w1214 w1213 (RO.mk rfl rfl rfl rfl) rfl rfl rfl dX9_exists_2 ⟨rfl, rfl⟩ (fun x_11 => ?_)
  refine S_ifeq (pc := 5) (tgt := 18) dX9_exists_5 (by decide) ?_ ?_
  · refine S_iconst (pc := 18) (v := (nI 1)) dX9_exists_18 kI_1 ?_
    refine S_goto (pc := 19) (tgt := 23) dX9_exists_19 (by decide) ?_
    exact (sX9_exists_23 r0 v1 v2 r0 (nI 1))
  · refine S_iload_n (pc := 8) dX9_exists_8 rfl ?_
    refine S_iconst (pc := 9) (v := (nI 0)) dX9_exists_9 kI_0 ?_
    refine S_bipush (pc := 10) (v := (nI 9)) dX9_exists_10 kB_9 ?_
    refine Y_Ti (pc := 12) (st := [.ref r0]) (kc' := 0) (ks' := 0) (ktX9_within v2 (nI 0) (nI 9)) mw_X9_within w1217 w1216 (RO.mk rfl rfl rfl rfl) rfl rfl rfl dX9_exists_12 ⟨rfl, rfl⟩ (fun x_12 => ?_)
    refine S_ifne (pc := 15) (tgt := 22) dX9_exists_15 (by decide) ?_ ?_
    · refine S_iconst (pc := 22) (v := (nI 0)) dX9_exists_22 kI_0 ?_
      exact (sX9_exists_23 r0 v1 v2 r0 (nI 0))
    · refine S_iconst (pc := 18) (v := (nI 1)) dX9_exists_18 kI_1 ?_
      refine S_goto (pc := 19) (tgt := 23) dX9_exists_19 (by decide) ?_
      exact (sX9_exists_23 r0 v1 v2 r0 (nI 1))
theorem ktX9_exists (r0 : Nat) (v1 : Int32) (v2 : Int32) : Ct mX9_exists rI [.ref r0, .int v1, .int v2] (fX9_exists r0 v1 v2) := Ct.of (z := 0) pn_X9 rfl rfl rfl (sX9_exists r0 v1 v2)
def mX9_field : MI := (yX9_field, cX9_field, 4, (some .int), { frames := 6, cells := 0, slots := 0, locals := 152 }, [])
theorem mw_X9_field : MW mX9_field 3 := ⟨w1552, w11, ⟨by decide, by decide⟩, by decide +kernel⟩
theorem mv_X9_field : MV mX9_field 9 := ⟨_, rfl, w1550, w1551⟩
def fX9_field_29  (r0 : Nat) (v1 : Int32) (v2 : Int32) (v3 : Int32) (s0 : Nat) (s1 : Int32) : AH → Option (Int32 × AH) := fun h =>
  cv 9 s0 (fX9_refused s0 s1) h fun x_13 h =>
  if x_13 = 0 then (
    (gP 9 r0 4 h).bind fun a_14 =>
    (ldI a_14 (nI 0) h).bind fun x_15 =>
    cv 9 r0 (fX9_fieldOf r0 v1 v2 v3 (nI 0) x_15) h fun x_16 h =>
    some (x_16, h))
  else
  some ((nI 0), h)
def fX9_field  (r0 : Nat) (v1 : Int32) (v2 : Int32) (v3 : Int32) : AH → Option (Int32 × AH) := fun h =>
  cv 9 r0 (fX9_isClass r0 v1 v2) h fun x_17 h =>
  if x_17 = 0 then (
    fX9_field_29 r0 v1 v2 v3 r0 (nI 1) h)
  else
  bd (fX9_within v3 (nI 0) (nI 7) h) fun x_18 h =>
  if x_18 = 0 then (
    fX9_field_29 r0 v1 v2 v3 r0 (nI 2) h)
  else
  fX9_field_29 r0 v1 v2 v3 r0 (nI 0) h
theorem sX9_field_29  (r0 : Nat) (v1 : Int32) (v2 : Int32) (v3 : Int32) (s0 : Nat) (s1 : Int32) : Sm mX9_field rI 0 0 29 [some (.ref r0), some (.int v1), some (.int v2), some (.int v3)] [.int s1, .ref s0] (fX9_field_29 r0 v1 v2 v3 s0 s1) := by
  unfold fX9_field_29
  refine Y_Vi (pc := 29) (st := []) (kc' := 0) (ks' := 0) (ktX9_refused s0 s1) mw_X9_refused mv_X9_refused w1415 (RO.mk rfl rfl rfl rfl) rfl rfl rfl dX9_field_29 ⟨rfl, rfl⟩ (fun x_13 => ?_)
  refine S_ifeq (pc := 32) (tgt := 37) dX9_field_32 (by decide) ?_ ?_
  · refine S_aload_n (pc := 37) dX9_field_37 rfl ?_
    refine S_iload_n (pc := 38) dX9_field_38 rfl ?_
    refine S_iload_n (pc := 39) dX9_field_39 rfl ?_
    refine S_iload_n (pc := 40) dX9_field_40 rfl ?_
    refine S_iconst (pc := 41) (v := (nI 0)) dX9_field_41 kI_0 ?_
    refine S_aload_n (pc := 42) dX9_field_42 rfl ?_
    refine S_gP (pc := 43) fl_X9_16 rfl dX9_field_43 (fun a_14 => ?_)
    refine S_iconst (pc := 46) (v := (nI 0)) dX9_field_46 kI_0 ?_
    refine S_ldI (pc := 47) dX9_field_47 (fun x_15 => ?_)
    refine Y_Vi (pc := 48) (st := []) (kc' := 0) (ks' := 0) (ktX9_fieldOf r0 v1 v2 v3 (nI 0) x_15) mw_X9_fieldOf mv_X9_fieldOf w1231 (RO.mk rfl rfl rfl rfl) rfl rfl rfl dX9_field_48 ⟨rfl, rfl⟩ (fun x_16 => ?_)
    exact S_iret (pc := 51) ⟨rfl, rfl⟩ rfl rfl dX9_field_51
  · refine S_iconst (pc := 35) (v := (nI 0)) dX9_field_35 kI_0 ?_
    exact S_iret (pc := 36) ⟨rfl, rfl⟩ rfl rfl dX9_field_36
theorem sX9_field  (r0 : Nat) (v1 : Int32) (v2 : Int32) (v3 : Int32) : Sm mX9_field rI 0 0 0 [some (.ref r0), some (.int v1), some (.int v2), some (.int v3)] [] (fX9_field r0 v1 v2 v3) := by
  unfold fX9_field
  refine S_aload_n (pc := 0) dX9_field_0 rfl ?_
  refine S_aload_n (pc := 1) dX9_field_1 rfl ?_
  refine S_iload_n (pc := 2) dX9_field_2 rfl ?_
  refine S_iload_n (pc := 3) dX9_field_3 rfl ?_
  refine Y_Vi (pc := 4) (st := [.ref r0]) (kc' := 0) (ks' := 0) (ktX9_isClass r0 v1 v2) mw_X9_isClass mv_X9_isClass w1209 (RO.mk rfl rfl rfl rfl) rfl rfl rfl dX9_field_4 ⟨rfl, rfl⟩ (fun x_17 => ?_)
  refine S_ifne (pc := 7) (tgt := 14) dX9_field_7 (by decide) ?_ ?_
  · refine S_iload_n (pc := 14) dX9_field_14 rfl ?_
    refine S_iconst (pc := 15) (v := (nI 0)) dX9_field_15 kI_0 ?_
    refine S_bipush (pc := 16) (v := (nI 7)) dX9_field_16 kB_7 ?_
    refine Y_Ti (pc := 18) (st := [.ref r0]) (kc' := 0) (ks' := 0) (ktX9_within v3 (nI 0) (nI 7)) mw_X9_within w1217 w1216 (RO.mk rfl rfl rfl rfl) rfl rfl rfl dX9_field_18 ⟨rfl, rfl⟩ (fun x_18 => ?_)
    refine S_ifne (pc := 21) (tgt := 28) dX9_field_21 (by decide) ?_ ?_
    · refine S_iconst (pc := 28) (v := (nI 0)) dX9_field_28 kI_0 ?_
      exact (sX9_field_29 r0 v1 v2 v3 r0 (nI 0))
    · refine S_iconst (pc := 24) (v := (nI 2)) dX9_field_24 kI_2 ?_
      refine S_goto (pc := 25) (tgt := 29) dX9_field_25 (by decide) ?_
      exact (sX9_field_29 r0 v1 v2 v3 r0 (nI 2))
  · refine S_iconst (pc := 10) (v := (nI 1)) dX9_field_10 kI_1 ?_
    refine S_goto (pc := 11) (tgt := 29) dX9_field_11 (by decide) ?_
    exact (sX9_field_29 r0 v1 v2 v3 r0 (nI 1))
theorem ktX9_field (r0 : Nat) (v1 : Int32) (v2 : Int32) (v3 : Int32) : Ct mX9_field rI [.ref r0, .int v1, .int v2, .int v3] (fX9_field r0 v1 v2 v3) := Ct.of (z := 0) pn_X9 rfl rfl rfl (sX9_field r0 v1 v2 v3)
def mX9_isType : MI := (yX9_isType, cX9_isType, 1, (some .boolean), { frames := 1, cells := 0, slots := 0, locals := 22 }, [])
theorem mw_X9_isType : MW mX9_isType 1 := ⟨w1548, w11, ⟨by decide, by decide⟩, by decide +kernel⟩
def fX9_isType  (v0 : Int32) : AH → Option (Int32 × AH) := fun h =>
  bd (fX9_within v0 (-1 : Int32) (nI 9) h) fun x_2 h =>
  rz x_2 x_2 h
theorem sX9_isType  (v0 : Int32) : Sm mX9_isType rI 0 0 0 [some (.int v0)] [] (fX9_isType v0) := by
  unfold fX9_isType
  refine S_iload_n (pc := 0) dX9_isType_0 rfl ?_
  refine S_iconst (pc := 1) (v := (-1 : Int32)) dX9_isType_1 kI_m1 ?_
  refine S_bipush (pc := 2) (v := (nI 9)) dX9_isType_2 kB_9 ?_
  refine Y_Ti (pc := 4) (st := []) (kc' := 0) (ks' := 0) (ktX9_within v0 (-1 : Int32) (nI 9)) mw_X9_within w1217 w1216 (RO.mk rfl rfl rfl rfl) rfl rfl rfl dX9_isType_4 ⟨rfl, rfl⟩ (fun x_2 => ?_)
  exact S_zret (pc := 7) ⟨rfl, rfl⟩ rfl rfl dX9_isType_7
theorem ktX9_isType (v0 : Int32) : Ct mX9_isType rI [.int v0] (fX9_isType v0) := Ct.of (z := 0) pn_X9 rfl rfl rfl (sX9_isType v0)
def mX9_fits : MI := (yX9_fits, cX9_fits, 4, (some .boolean), { frames := 4, cells := 0, slots := 0, locals := 91 }, [])
theorem mw_X9_fits : MW mX9_fits 3 := ⟨w1545, w11, ⟨by decide, by decide⟩, by decide +kernel⟩
theorem mv_X9_fits : MV mX9_fits 9 := ⟨_, rfl, w1543, w1544⟩
def fX9_fits_31  (r0 : Nat) (v1 : Int32) (v2 : Int32) (v3 : Int32) (s0 : Nat) (s1 : Int32) : AH → Option (Int32 × AH) := fun h =>
  cv 9 s0 (fX9_refused s0 s1) h fun x_11 h =>
  if x_11 = 0 then (
    cv 9 r0 (fX9_isFit r0 v1 v2 v3) h fun x_12 h =>
    if x_12 = 0 then (
      rz (nI 0) (nI 0) h)
    else
    rz (nI 1) (nI 1) h)
  else
  rz (nI 0) (nI 0) h
def fX9_fits  (r0 : Nat) (v1 : Int32) (v2 : Int32) (v3 : Int32) : AH → Option (Int32 × AH) := fun h =>
  bd (fX9_isVersion v1 h) fun x_13 h =>
  if x_13 = 0 then (
    fX9_fits_31 r0 v1 v2 v3 r0 (nI 1) h)
  else
  bd (fX9_isType v2 h) fun x_14 h =>
  if x_14 = 0 then (
    fX9_fits_31 r0 v1 v2 v3 r0 (nI 2) h)
  else
  bd (fX9_isType v3 h) fun x_15 h =>
  if x_15 = 0 then (
    fX9_fits_31 r0 v1 v2 v3 r0 (nI 2) h)
  else
  fX9_fits_31 r0 v1 v2 v3 r0 (nI 0) h
theorem sX9_fits_31  (r0 : Nat) (v1 : Int32) (v2 : Int32) (v3 : Int32) (s0 : Nat) (s1 : Int32) : Sm mX9_fits rI 0 0 31 [some (.ref r0), some (.int v1), some (.int v2), some (.int v3)] [.int s1, .ref s0] (fX9_fits_31 r0 v1 v2 v3 s0 s1) := by
  unfold fX9_fits_31
  refine Y_Vi (pc := 31) (st := []) (kc' := 0) (ks' := 0) (ktX9_refused s0 s1) mw_X9_refused mv_X9_refused w1415 (RO.mk rfl rfl rfl rfl) rfl rfl rfl dX9_fits_31 ⟨rfl, rfl⟩ (fun x_11 => ?_)
  refine S_ifne (pc := 34) (tgt := 51) dX9_fits_34 (by decide) ?_ ?_
  · refine S_iconst (pc := 51) (v := (nI 0)) dX9_fits_51 kI_0 ?_
    exact S_zret (pc := 52) ⟨rfl, rfl⟩ rfl rfl dX9_fits_52
  · refine S_aload_n (pc := 37) dX9_fits_37 rfl ?_
    refine S_iload_n (pc := 38) dX9_fits_38 rfl ?_
    refine S_iload_n (pc := 39) dX9_fits_39 rfl ?_
    refine S_iload_n (pc := 40) dX9_fits_40 rfl ?_
    refine Y_Vi (pc := 41) (st := []) (kc' := 0) (ks' := 0) (ktX9_isFit r0 v1 v2 v3) mw_X9_isFit mv_X9_isFit w1290 (RO.mk rfl rfl rfl rfl) rfl rfl rfl dX9_fits_41 ⟨rfl, rfl⟩ (fun x_12 => ?_)
    refine S_ifeq (pc := 44) (tgt := 51) dX9_fits_44 (by decide) ?_ ?_
    · refine S_iconst (pc := 51) (v := (nI 0)) dX9_fits_51 kI_0 ?_
      exact S_zret (pc := 52) ⟨rfl, rfl⟩ rfl rfl dX9_fits_52
    · refine S_iconst (pc := 47) (v := (nI 1)) dX9_fits_47 kI_1 ?_
      refine S_goto (pc := 48) (tgt := 52) dX9_fits_48 (by decide) ?_
      exact S_zret (pc := 52) ⟨rfl, rfl⟩ rfl rfl dX9_fits_52
theorem sX9_fits  (r0 : Nat) (v1 : Int32) (v2 : Int32) (v3 : Int32) : Sm mX9_fits rI 0 0 0 [some (.ref r0), some (.int v1), some (.int v2), some (.int v3)] [] (fX9_fits r0 v1 v2 v3) := by
  unfold fX9_fits
  refine S_aload_n (pc := 0) dX9_fits_0 rfl ?_
  refine S_iload_n (pc := 1) dX9_fits_1 rfl ?_
  refine Y_Ti (pc := 2) (st := [.ref r0]) (kc' := 0) (ks' := 0) (ktX9_isVersion v1) mw_X9_isVersion w1214 w1213 (RO.mk rfl rfl rfl rfl) rfl rfl rfl dX9_fits_2 ⟨rfl, rfl⟩ (fun x_13 => ?_)
  refine S_ifne (pc := 5) (tgt := 12) dX9_fits_5 (by decide) ?_ ?_
  · refine S_iload_n (pc := 12) dX9_fits_12 rfl ?_
    refine Y_Ti (pc := 13) (st := [.ref r0]) (kc' := 0) (ks' := 0) (ktX9_isType v2) mw_X9_isType w1547 w1546 (RO.mk rfl rfl rfl rfl) rfl rfl rfl dX9_fits_13 ⟨rfl, rfl⟩ (fun x_14 => ?_)
    refine S_ifeq (pc := 16) (tgt := 26) dX9_fits_16 (by decide) ?_ ?_
    · refine S_iconst (pc := 26) (v := (nI 2)) dX9_fits_26 kI_2 ?_
      refine S_goto (pc := 27) (tgt := 31) dX9_fits_27 (by decide) ?_
      exact (sX9_fits_31 r0 v1 v2 v3 r0 (nI 2))
    · refine S_iload_n (pc := 19) dX9_fits_19 rfl ?_
      refine Y_Ti (pc := 20) (st := [.ref r0]) (kc' := 0) (ks' := 0) (ktX9_isType v3) mw_X9_isType w1547 w1546 (RO.mk rfl rfl rfl rfl) rfl rfl rfl dX9_fits_20 ⟨rfl, rfl⟩ (fun x_15 => ?_)
      refine S_ifne (pc := 23) (tgt := 30) dX9_fits_23 (by decide) ?_ ?_
      · refine S_iconst (pc := 30) (v := (nI 0)) dX9_fits_30 kI_0 ?_
        exact (sX9_fits_31 r0 v1 v2 v3 r0 (nI 0))
      · refine S_iconst (pc := 26) (v := (nI 2)) dX9_fits_26 kI_2 ?_
        refine S_goto (pc := 27) (tgt := 31) dX9_fits_27 (by decide) ?_
        exact (sX9_fits_31 r0 v1 v2 v3 r0 (nI 2))
  · refine S_iconst (pc := 8) (v := (nI 1)) dX9_fits_8 kI_1 ?_
    refine S_goto (pc := 9) (tgt := 31) dX9_fits_9 (by decide) ?_
    exact (sX9_fits_31 r0 v1 v2 v3 r0 (nI 1))
theorem ktX9_fits (r0 : Nat) (v1 : Int32) (v2 : Int32) (v3 : Int32) : Ct mX9_fits rI [.ref r0, .int v1, .int v2, .int v3] (fX9_fits r0 v1 v2 v3) := Ct.of (z := 0) pn_X9 rfl rfl rfl (sX9_fits r0 v1 v2 v3)
def mX9_hasAbstract : MI := (yX9_hasAbstract, cX9_hasAbstract, 5, (some .boolean), { frames := 3, cells := 0, slots := 0, locals := 66 }, [])
theorem mw_X9_hasAbstract : MW mX9_hasAbstract 2 := ⟨w1466, w11, ⟨by decide, by decide⟩, by decide +kernel⟩
theorem mv_X9_hasAbstract : MV mX9_hasAbstract 9 := ⟨_, rfl, w1465, wp81⟩
def fX9_hasAbstract_46 (k5 : Nat → Int32 → Int32 → Int32 → Int32 → AH → Option (Int32 × AH)) (r0 : Nat) (v1 : Int32) (v2 : Int32) (v4 : Int32) (s0 : Int32) : AH → Option (Int32 × AH) := fun h =>
  k5 r0 v1 v2 s0 (v4 + (nI 1)) h
def fX9_hasAbstract_45 (k5 : Nat → Int32 → Int32 → Int32 → Int32 → AH → Option (Int32 × AH)) (r0 : Nat) (v1 : Int32) (v2 : Int32) (v4 : Int32) : AH → Option (Int32 × AH) := fun h =>
  fX9_hasAbstract_46 k5 r0 v1 v2 v4 (nI 0) h
def bX9_hasAbstract_5  (k5 : Nat → Int32 → Int32 → Int32 → Int32 → AH → Option (Int32 × AH)) (r0 : Nat) (v1 : Int32) (v2 : Int32) (v3 : Int32) (v4 : Int32) : AH → Option (Int32 × AH) := fun h =>
  cv 9 r0 (fX9_memberMany r0 v1) h fun x_7 h =>
  if x_7 ≤ v4 then (
    rz v3 v3 h)
  else
  if v3 = 0 then (
    cv 9 r0 (fX9_its r0 v1 v4 (nI 1)) h fun x_8 h =>
    if x_8 = v2 then (
      cv 9 r0 (fX9_isAbstract r0 v1 v4) h fun x_9 h =>
      if x_9 = 0 then (
        fX9_hasAbstract_45 k5 r0 v1 v2 v4 h)
      else
      fX9_hasAbstract_46 k5 r0 v1 v2 v4 (nI 1) h)
    else
    fX9_hasAbstract_45 k5 r0 v1 v2 v4 h)
  else
  fX9_hasAbstract_46 k5 r0 v1 v2 v4 (nI 1) h
def lX9_hasAbstract_5  : Nat → Nat → Int32 → Int32 → Int32 → Int32 → AH → Option (Int32 × AH)
  | 0 => fun _ _ _ _ _ _ => none
  | n + 1 => bX9_hasAbstract_5 (lX9_hasAbstract_5 n)
def fX9_hasAbstract  (r0 : Nat) (v1 : Int32) (v2 : Int32) : AH → Option (Int32 × AH) := fun h =>
  lX9_hasAbstract_5 fuel r0 v1 v2 (nI 0) (nI 0) h
theorem sX9_hasAbstract_46 {k5 : Nat → Int32 → Int32 → Int32 → Int32 → AH → Option (Int32 × AH)} (h5 : ∀ (r0 : Nat) (v1 : Int32) (v2 : Int32) (v3 : Int32) (v4 : Int32), Sm mX9_hasAbstract rI 0 0 5 [some (.ref r0), some (.int v1), some (.int v2), some (.int v3), some (.int v4)] [] (k5 r0 v1 v2 v3 v4)) (r0 : Nat) (v1 : Int32) (v2 : Int32) (v4 : Int32) (s0 : Int32) : Sm mX9_hasAbstract rI 0 0 46 [some (.ref r0), some (.int v1), some (.int v2), none, some (.int v4)] [.int s0] (fX9_hasAbstract_46 k5 r0 v1 v2 v4 s0) := by
  unfold fX9_hasAbstract_46
  refine Z_istore_n (pc := 46) (lv' := [some (.ref r0), some (.int v1), some (.int v2), some (.int s0), some (.int v4)]) dX9_hasAbstract_46 rfl rfl rfl ?_
  refine Z_iinc (pc := 47) (v := (nI 1)) (lv' := [some (.ref r0), some (.int v1), some (.int v2), some (.int s0), some (.int (v4 + (nI 1)))]) dX9_hasAbstract_47 rfl kI_1 rfl rfl rfl ?_
  refine S_goto (pc := 50) (tgt := 5) dX9_hasAbstract_50 (by decide) ?_
  exact (h5 r0 v1 v2 s0 (v4 + (nI 1)))
theorem sX9_hasAbstract_45 {k5 : Nat → Int32 → Int32 → Int32 → Int32 → AH → Option (Int32 × AH)} (h5 : ∀ (r0 : Nat) (v1 : Int32) (v2 : Int32) (v3 : Int32) (v4 : Int32), Sm mX9_hasAbstract rI 0 0 5 [some (.ref r0), some (.int v1), some (.int v2), some (.int v3), some (.int v4)] [] (k5 r0 v1 v2 v3 v4)) (r0 : Nat) (v1 : Int32) (v2 : Int32) (v4 : Int32) : Sm mX9_hasAbstract rI 0 0 45 [some (.ref r0), some (.int v1), some (.int v2), none, some (.int v4)] [] (fX9_hasAbstract_45 k5 r0 v1 v2 v4) := by
  unfold fX9_hasAbstract_45
  refine S_iconst (pc := 45) (v := (nI 0)) dX9_hasAbstract_45 kI_0 ?_
  exact (sX9_hasAbstract_46 h5 r0 v1 v2 v4 (nI 0))
theorem sbX9_hasAbstract_5  {k5 : Nat → Int32 → Int32 → Int32 → Int32 → AH → Option (Int32 × AH)} (h5 : ∀ (r0 : Nat) (v1 : Int32) (v2 : Int32) (v3 : Int32) (v4 : Int32), Sm mX9_hasAbstract rI 0 0 5 [some (.ref r0), some (.int v1), some (.int v2), some (.int v3), some (.int v4)] [] (k5 r0 v1 v2 v3 v4)) (r0 : Nat) (v1 : Int32) (v2 : Int32) (v3 : Int32) (v4 : Int32) : Sm mX9_hasAbstract rI 0 0 5 [some (.ref r0), some (.int v1), some (.int v2), some (.int v3), some (.int v4)] [] (bX9_hasAbstract_5 k5 r0 v1 v2 v3 v4) := by
  unfold bX9_hasAbstract_5
  refine S_iload (pc := 5) dX9_hasAbstract_5 rfl ?_
  refine S_aload_n (pc := 7) dX9_hasAbstract_7 rfl ?_
  refine S_iload_n (pc := 8) dX9_hasAbstract_8 rfl ?_
  refine Y_Vi (pc := 9) (st := [.int v4]) (kc' := 0) (ks' := 0) (ktX9_memberMany r0 v1) mw_X9_memberMany mv_X9_memberMany w1186 (RO.mk rfl rfl rfl rfl) rfl rfl rfl dX9_hasAbstract_9 ⟨rfl, rfl⟩ (fun x_7 => ?_)
  refine S_icmpge (pc := 12) (tgt := 53) dX9_hasAbstract_12 (by decide) ?_ ?_
  · refine S_iload_n (pc := 53) dX9_hasAbstract_53 rfl ?_
    exact S_zret (pc := 54) ⟨rfl, rfl⟩ rfl rfl dX9_hasAbstract_54
  · refine S_iload_n (pc := 15) dX9_hasAbstract_15 rfl ?_
    refine S_ifne (pc := 16) (tgt := 41) dX9_hasAbstract_16 (by decide) ?_ ?_
    · refine S_iconst (pc := 41) (v := (nI 1)) dX9_hasAbstract_41 kI_1 ?_
      refine S_goto (pc := 42) (tgt := 46) dX9_hasAbstract_42 (by decide) ?_
      exact (S_lv (lv0 := [some (.ref r0), some (.int v1), some (.int v2), none, some (.int v4)]) (And.intro rfl (And.intro rfl (And.intro rfl (And.intro rfl trivial)))) (sX9_hasAbstract_46 h5 r0 v1 v2 v4 (nI 1)))
    · refine S_aload_n (pc := 19) dX9_hasAbstract_19 rfl ?_
      refine S_iload_n (pc := 20) dX9_hasAbstract_20 rfl ?_
      refine S_iload (pc := 21) dX9_hasAbstract_21 rfl ?_
      refine S_iconst (pc := 23) (v := (nI 1)) dX9_hasAbstract_23 kI_1 ?_
      refine Y_Vi (pc := 24) (st := []) (kc' := 0) (ks' := 0) (ktX9_its r0 v1 v4 (nI 1)) mw_X9_its mv_X9_its w1243 (RO.mk rfl rfl rfl rfl) rfl rfl rfl dX9_hasAbstract_24 ⟨rfl, rfl⟩ (fun x_8 => ?_)
      refine S_iload_n (pc := 27) dX9_hasAbstract_27 rfl ?_
      refine S_icmpne (pc := 28) (tgt := 45) dX9_hasAbstract_28 (by decide) ?_ ?_
      · exact (S_lv (lv0 := [some (.ref r0), some (.int v1), some (.int v2), none, some (.int v4)]) (And.intro rfl (And.intro rfl (And.intro rfl (And.intro rfl trivial)))) (sX9_hasAbstract_45 h5 r0 v1 v2 v4))
      · refine S_aload_n (pc := 31) dX9_hasAbstract_31 rfl ?_
        refine S_iload_n (pc := 32) dX9_hasAbstract_32 rfl ?_
        refine S_iload (pc := 33) dX9_hasAbstract_33 rfl ?_
        refine Y_Vi (pc := 35) (st := []) (kc' := 0) (ks' := 0) (ktX9_isAbstract r0 v1 v4) mw_X9_isAbstract mv_X9_isAbstract w1294 (RO.mk rfl rfl rfl rfl) rfl rfl rfl dX9_hasAbstract_35 ⟨rfl, rfl⟩ (fun x_9 => ?_)
        refine S_ifeq (pc := 38) (tgt := 45) dX9_hasAbstract_38 (by decide) ?_ ?_
        · exact (S_lv (lv0 := [some (.ref r0), some (.int v1), some (.int v2), none, some (.int v4)]) (And.intro rfl (And.intro rfl (And.intro rfl (And.intro rfl trivial)))) (sX9_hasAbstract_45 h5 r0 v1 v2 v4))
        · refine S_iconst (pc := 41) (v := (nI 1)) dX9_hasAbstract_41 kI_1 ?_
          refine S_goto (pc := 42) (tgt := 46) dX9_hasAbstract_42 (by decide) ?_
          exact (S_lv (lv0 := [some (.ref r0), some (.int v1), some (.int v2), none, some (.int v4)]) (And.intro rfl (And.intro rfl (And.intro rfl (And.intro rfl trivial)))) (sX9_hasAbstract_46 h5 r0 v1 v2 v4 (nI 1)))
theorem sX9_hasAbstract_5  : ∀ (n : Nat) (r0 : Nat) (v1 : Int32) (v2 : Int32) (v3 : Int32) (v4 : Int32), Sm mX9_hasAbstract rI 0 0 5 [some (.ref r0), some (.int v1), some (.int v2), some (.int v3), some (.int v4)] [] (lX9_hasAbstract_5 n r0 v1 v2 v3 v4)
  | 0, _, _, _, _, _ => S_none
  | n + 1, r0, v1, v2, v3, v4 => sbX9_hasAbstract_5 (sX9_hasAbstract_5 n) r0 v1 v2 v3 v4
theorem sX9_hasAbstract  (r0 : Nat) (v1 : Int32) (v2 : Int32) : Sm mX9_hasAbstract rI 0 0 0 [some (.ref r0), some (.int v1), some (.int v2), none, none] [] (fX9_hasAbstract r0 v1 v2) := by
  unfold fX9_hasAbstract
  refine S_iconst (pc := 0) (v := (nI 0)) dX9_hasAbstract_0 kI_0 ?_
  refine Z_istore_n (pc := 1) (lv' := [some (.ref r0), some (.int v1), some (.int v2), some (.int (nI 0)), none]) dX9_hasAbstract_1 rfl rfl rfl ?_
  refine S_iconst (pc := 2) (v := (nI 0)) dX9_hasAbstract_2 kI_0 ?_
  refine Z_istore (pc := 3) (lv' := [some (.ref r0), some (.int v1), some (.int v2), some (.int (nI 0)), some (.int (nI 0))]) dX9_hasAbstract_3 rfl rfl rfl ?_
  exact (sX9_hasAbstract_5 fuel r0 v1 v2 (nI 0) (nI 0))
theorem ktX9_hasAbstract (r0 : Nat) (v1 : Int32) (v2 : Int32) : Ct mX9_hasAbstract rI [.ref r0, .int v1, .int v2] (fX9_hasAbstract r0 v1 v2) := Ct.of (z := 2) pn_X9 rfl rfl rfl (sX9_hasAbstract r0 v1 v2)
def mX9_init : MI := (yX9_init, cX9_init, 2, none, { frames := 10, cells := 7, slots := 7008, locals := 248 }, [])
theorem mw_X9_init : MW mX9_init 0 := ⟨w1173, w11, ⟨by decide, by decide⟩, by decide +kernel⟩
def bX9_init_70  (k70 : Nat → Int32 → AH → Option (Unit × AH)) (r0 : Nat) (v1 : Int32) : AH → Option (Unit × AH) := fun h =>
  if (nI 2) ≤ v1 then (
    cv 9 r0 (fX9_comes r0 (nI 0) (nI 3) (nI 1) (nI 2)) h fun _ h =>
    cv 9 r0 (fX9_comes r0 (nI 2) (nI 3) (nI 2) (nI 2)) h fun _ h =>
    cv 9 r0 (fX9_comes r0 (nI 2) (nI 4) (nI 0) (nI 2)) h fun _ h =>
    some ((), h))
  else
  cv 9 r0 (fX9_puts r0 v1 (nI 0) (nI 0) (-2 : Int32) (nI 0) (nI 0) (nI 1) (nI 0)) h fun _ h =>
  cv 9 r0 (fX9_puts r0 v1 (nI 1) (nI 0) (nI 0) (nI 0) (nI 0) (nI 1) (nI 0)) h fun _ h =>
  cv 9 r0 (fX9_puts r0 v1 (nI 2) (nI 1) (nI 0) (nI 0) (nI 0) (nI 1) (nI 1)) h fun _ h =>
  cv 9 r0 (fX9_puts r0 v1 (nI 3) (nI 0) (nI 1) (nI 4) (nI 0) (nI 1) (nI 0)) h fun _ h =>
  cv 9 r0 (fX9_puts r0 v1 (nI 4) (nI 0) (nI 1) (nI 0) (nI 1) (nI 1) (nI 1)) h fun _ h =>
  cv 9 r0 (fX9_adds r0 v1 (nI 0) (nI 1) (nI 0) (nI 3) (nI 0) (-1 : Int32) (nI 0) (nI 0)) h fun x_37 h =>
  cv 9 r0 (fX9_adds r0 v1 (nI 0) (nI 1) (nI 1) (nI 3) (nI 3) (-1 : Int32) (nI 0) (nI 0)) h fun x_38 h =>
  (gP 9 r0 0 h).bind fun a_39 =>
  bd (fX9_member v1 (nI 1) h) fun x_40 h =>
  (stI a_39 (x_40 + (nI 9)) (nI 7) h).bind fun h =>
  cv 9 r0 (fX9_adds r0 v1 (nI 1) (nI 1) (nI 0) (nI 3) (nI 0) (-1 : Int32) (nI 0) (nI 0)) h fun x_41 h =>
  cv 9 r0 (fX9_adds r0 v1 (nI 1) (nI 1) (nI 1) (nI 2) (nI 0) (-1 : Int32) (nI 1) (nI 1)) h fun x_42 h =>
  cv 9 r0 (fX9_adds r0 v1 (nI 1) (nI 2) (nI 2) (nI 3) (nI 4) (nI 1) (nI 0) (nI 0)) h fun x_43 h =>
  cv 9 r0 (fX9_adds r0 v1 (nI 1) (nI 3) (nI 2) (nI 3) (nI 0) (nI 1) (nI 0) (nI 0)) h fun x_44 h =>
  cv 9 r0 (fX9_adds r0 v1 (nI 1) (nI 3) (nI 0) (nI 3) (nI 0) (-1 : Int32) (nI 0) (nI 0)) h fun x_45 h =>
  cv 9 r0 (fX9_adds r0 v1 (nI 1) (nI 4) (nI 1) (nI 3) (nI 0) (-1 : Int32) (nI 1) (nI 3)) h fun x_46 h =>
  k70 r0 (v1 + (nI 1)) h
def lX9_init_70  : Nat → Nat → Int32 → AH → Option (Unit × AH)
  | 0 => fun _ _ _ => none
  | n + 1 => bX9_init_70 (lX9_init_70 n)
def fX9_init  (r0 : Nat) : AH → Option (Unit × AH) := fun h =>
  bd (nwI (nI 1155) h) fun a_47 h =>
  (pP 9 r0 0 a_47 h).bind fun h =>
  bd (nwI (nI 5775) h) fun a_48 h =>
  (pP 9 r0 1 a_48 h).bind fun h =>
  bd (nwI (nI 4) h) fun a_49 h =>
  (pP 9 r0 4 a_49 h).bind fun h =>
  bd (nwI (nI 10) h) fun a_50 h =>
  (pP 9 r0 5 a_50 h).bind fun h =>
  bd (nwI (nI 16) h) fun a_51 h =>
  (pP 9 r0 15 a_51 h).bind fun h =>
  bd (nwI (nI 8) h) fun a_52 h =>
  (pP 9 r0 16 a_52 h).bind fun h =>
  bd (nwZ (nI 40) h) fun a_53 h =>
  (pP 9 r0 17 a_53 h).bind fun h =>
  (gP 9 r0 4 h).bind fun a_54 =>
  (stI a_54 (nI 0) (-1 : Int32) h).bind fun h =>
  lX9_init_70 fuel r0 (nI 0) h
theorem sbX9_init_70  {k70 : Nat → Int32 → AH → Option (Unit × AH)} (h70 : ∀ (r0 : Nat) (v1 : Int32), Sm mX9_init rV 7 7008 70 [some (.ref r0), some (.int v1)] [] (k70 r0 v1)) (r0 : Nat) (v1 : Int32) : Sm mX9_init rV 7 7008 70 [some (.ref r0), some (.int v1)] [] (bX9_init_70 k70 r0 v1) := by
  unfold bX9_init_70
  refine S_iload_n (pc := 70) dX9_init_70 rfl ?_
  refine S_iconst (pc := 71) (v := (nI 2)) dX9_init_71 kI_2 ?_
  refine S_icmpge (pc := 72) (tgt := 269) dX9_init_72 (by decide) ?_ ?_
  · refine S_aload_n (pc := 269) dX9_init_269 rfl ?_
    refine S_iconst (pc := 270) (v := (nI 0)) dX9_init_270 kI_0 ?_
    refine S_iconst (pc := 271) (v := (nI 3)) dX9_init_271 kI_3 ?_
    refine S_iconst (pc := 272) (v := (nI 1)) dX9_init_272 kI_1 ?_
    refine S_iconst (pc := 273) (v := (nI 2)) dX9_init_273 kI_2 ?_
    refine Y_Vv (pc := 274) (st := []) (kc' := 7) (ks' := 7008) (ktX9_comes r0 (nI 0) (nI 3) (nI 1) (nI 2)) mw_X9_comes mv_X9_comes w1193 (RO.mk rfl rfl rfl rfl) rfl rfl rfl dX9_init_274 ⟨rfl, rfl⟩ ?_
    refine S_aload_n (pc := 277) dX9_init_277 rfl ?_
    refine S_iconst (pc := 278) (v := (nI 2)) dX9_init_278 kI_2 ?_
    refine S_iconst (pc := 279) (v := (nI 3)) dX9_init_279 kI_3 ?_
    refine S_iconst (pc := 280) (v := (nI 2)) dX9_init_280 kI_2 ?_
    refine S_iconst (pc := 281) (v := (nI 2)) dX9_init_281 kI_2 ?_
    refine Y_Vv (pc := 282) (st := []) (kc' := 7) (ks' := 7008) (ktX9_comes r0 (nI 2) (nI 3) (nI 2) (nI 2)) mw_X9_comes mv_X9_comes w1193 (RO.mk rfl rfl rfl rfl) rfl rfl rfl dX9_init_282 ⟨rfl, rfl⟩ ?_
    refine S_aload_n (pc := 285) dX9_init_285 rfl ?_
    refine S_iconst (pc := 286) (v := (nI 2)) dX9_init_286 kI_2 ?_
    refine S_iconst (pc := 287) (v := (nI 4)) dX9_init_287 kI_4 ?_
    refine S_iconst (pc := 288) (v := (nI 0)) dX9_init_288 kI_0 ?_
    refine S_iconst (pc := 289) (v := (nI 2)) dX9_init_289 kI_2 ?_
    refine Y_Vv (pc := 290) (st := []) (kc' := 7) (ks' := 7008) (ktX9_comes r0 (nI 2) (nI 4) (nI 0) (nI 2)) mw_X9_comes mv_X9_comes w1193 (RO.mk rfl rfl rfl rfl) rfl rfl rfl dX9_init_290 ⟨rfl, rfl⟩ ?_
    exact S_vret (pc := 293) ⟨rfl, rfl⟩ rfl rfl dX9_init_293
  · refine S_aload_n (pc := 75) dX9_init_75 rfl ?_
    refine S_iload_n (pc := 76) dX9_init_76 rfl ?_
    refine S_iconst (pc := 77) (v := (nI 0)) dX9_init_77 kI_0 ?_
    refine S_iconst (pc := 78) (v := (nI 0)) dX9_init_78 kI_0 ?_
    refine S_bipush (pc := 79) (v := (-2 : Int32)) dX9_init_79 kB_m2 ?_
    refine S_iconst (pc := 81) (v := (nI 0)) dX9_init_81 kI_0 ?_
    refine S_iconst (pc := 82) (v := (nI 0)) dX9_init_82 kI_0 ?_
    refine S_iconst (pc := 83) (v := (nI 1)) dX9_init_83 kI_1 ?_
    refine S_iconst (pc := 84) (v := (nI 0)) dX9_init_84 kI_0 ?_
    refine Y_Vv (pc := 85) (st := []) (kc' := 7) (ks' := 7008) (ktX9_puts r0 v1 (nI 0) (nI 0) (-2 : Int32) (nI 0) (nI 0) (nI 1) (nI 0)) mw_X9_puts mv_X9_puts w1175 (RO.mk rfl rfl rfl rfl) rfl rfl rfl dX9_init_85 ⟨rfl, rfl⟩ ?_
    refine S_aload_n (pc := 88) dX9_init_88 rfl ?_
    refine S_iload_n (pc := 89) dX9_init_89 rfl ?_
    refine S_iconst (pc := 90) (v := (nI 1)) dX9_init_90 kI_1 ?_
    refine S_iconst (pc := 91) (v := (nI 0)) dX9_init_91 kI_0 ?_
    refine S_iconst (pc := 92) (v := (nI 0)) dX9_init_92 kI_0 ?_
    refine S_iconst (pc := 93) (v := (nI 0)) dX9_init_93 kI_0 ?_
    refine S_iconst (pc := 94) (v := (nI 0)) dX9_init_94 kI_0 ?_
    refine S_iconst (pc := 95) (v := (nI 1)) dX9_init_95 kI_1 ?_
    refine S_iconst (pc := 96) (v := (nI 0)) dX9_init_96 kI_0 ?_
    refine Y_Vv (pc := 97) (st := []) (kc' := 7) (ks' := 7008) (ktX9_puts r0 v1 (nI 1) (nI 0) (nI 0) (nI 0) (nI 0) (nI 1) (nI 0)) mw_X9_puts mv_X9_puts w1175 (RO.mk rfl rfl rfl rfl) rfl rfl rfl dX9_init_97 ⟨rfl, rfl⟩ ?_
    refine S_aload_n (pc := 100) dX9_init_100 rfl ?_
    refine S_iload_n (pc := 101) dX9_init_101 rfl ?_
    refine S_iconst (pc := 102) (v := (nI 2)) dX9_init_102 kI_2 ?_
    refine S_iconst (pc := 103) (v := (nI 1)) dX9_init_103 kI_1 ?_
    refine S_iconst (pc := 104) (v := (nI 0)) dX9_init_104 kI_0 ?_
    refine S_iconst (pc := 105) (v := (nI 0)) dX9_init_105 kI_0 ?_
    refine S_iconst (pc := 106) (v := (nI 0)) dX9_init_106 kI_0 ?_
    refine S_iconst (pc := 107) (v := (nI 1)) dX9_init_107 kI_1 ?_
    refine S_iconst (pc := 108) (v := (nI 1)) dX9_init_108 kI_1 ?_
    refine Y_Vv (pc := 109) (st := []) (kc' := 7) (ks' := 7008) (ktX9_puts r0 v1 (nI 2) (nI 1) (nI 0) (nI 0) (nI 0) (nI 1) (nI 1)) mw_X9_puts mv_X9_puts w1175 (RO.mk rfl rfl rfl rfl) rfl rfl rfl dX9_init_109 ⟨rfl, rfl⟩ ?_
    refine S_aload_n (pc := 112) dX9_init_112 rfl ?_
    refine S_iload_n (pc := 113) dX9_init_113 rfl ?_
    refine S_iconst (pc := 114) (v := (nI 3)) dX9_init_114 kI_3 ?_
    refine S_iconst (pc := 115) (v := (nI 0)) dX9_init_115 kI_0 ?_
    refine S_iconst (pc := 116) (v := (nI 1)) dX9_init_116 kI_1 ?_
    refine S_iconst (pc := 117) (v := (nI 4)) dX9_init_117 kI_4 ?_
    refine S_iconst (pc := 118) (v := (nI 0)) dX9_init_118 kI_0 ?_
    refine S_iconst (pc := 119) (v := (nI 1)) dX9_init_119 kI_1 ?_
    refine S_iconst (pc := 120) (v := (nI 0)) dX9_init_120 kI_0 ?_
    refine Y_Vv (pc := 121) (st := []) (kc' := 7) (ks' := 7008) (ktX9_puts r0 v1 (nI 3) (nI 0) (nI 1) (nI 4) (nI 0) (nI 1) (nI 0)) mw_X9_puts mv_X9_puts w1175 (RO.mk rfl rfl rfl rfl) rfl rfl rfl dX9_init_121 ⟨rfl, rfl⟩ ?_
    refine S_aload_n (pc := 124) dX9_init_124 rfl ?_
    refine S_iload_n (pc := 125) dX9_init_125 rfl ?_
    refine S_iconst (pc := 126) (v := (nI 4)) dX9_init_126 kI_4 ?_
    refine S_iconst (pc := 127) (v := (nI 0)) dX9_init_127 kI_0 ?_
    refine S_iconst (pc := 128) (v := (nI 1)) dX9_init_128 kI_1 ?_
    refine S_iconst (pc := 129) (v := (nI 0)) dX9_init_129 kI_0 ?_
    refine S_iconst (pc := 130) (v := (nI 1)) dX9_init_130 kI_1 ?_
    refine S_iconst (pc := 131) (v := (nI 1)) dX9_init_131 kI_1 ?_
    refine S_iconst (pc := 132) (v := (nI 1)) dX9_init_132 kI_1 ?_
    refine Y_Vv (pc := 133) (st := []) (kc' := 7) (ks' := 7008) (ktX9_puts r0 v1 (nI 4) (nI 0) (nI 1) (nI 0) (nI 1) (nI 1) (nI 1)) mw_X9_puts mv_X9_puts w1175 (RO.mk rfl rfl rfl rfl) rfl rfl rfl dX9_init_133 ⟨rfl, rfl⟩ ?_
    refine S_aload_n (pc := 136) dX9_init_136 rfl ?_
    refine S_iload_n (pc := 137) dX9_init_137 rfl ?_
    refine S_iconst (pc := 138) (v := (nI 0)) dX9_init_138 kI_0 ?_
    refine S_iconst (pc := 139) (v := (nI 1)) dX9_init_139 kI_1 ?_
    refine S_iconst (pc := 140) (v := (nI 0)) dX9_init_140 kI_0 ?_
    refine S_iconst (pc := 141) (v := (nI 3)) dX9_init_141 kI_3 ?_
    refine S_iconst (pc := 142) (v := (nI 0)) dX9_init_142 kI_0 ?_
    refine S_iconst (pc := 143) (v := (-1 : Int32)) dX9_init_143 kI_m1 ?_
    refine S_iconst (pc := 144) (v := (nI 0)) dX9_init_144 kI_0 ?_
    refine S_iconst (pc := 145) (v := (nI 0)) dX9_init_145 kI_0 ?_
    refine Y_Vi (pc := 146) (st := []) (kc' := 7) (ks' := 7008) (ktX9_adds r0 v1 (nI 0) (nI 1) (nI 0) (nI 3) (nI 0) (-1 : Int32) (nI 0) (nI 0)) mw_X9_adds mv_X9_adds w1182 (RO.mk rfl rfl rfl rfl) rfl rfl rfl dX9_init_146 ⟨rfl, rfl⟩ (fun x_37 => ?_)
    refine S_pop (pc := 149) rfl dX9_init_149 ?_
    refine S_aload_n (pc := 150) dX9_init_150 rfl ?_
    refine S_iload_n (pc := 151) dX9_init_151 rfl ?_
    refine S_iconst (pc := 152) (v := (nI 0)) dX9_init_152 kI_0 ?_
    refine S_iconst (pc := 153) (v := (nI 1)) dX9_init_153 kI_1 ?_
    refine S_iconst (pc := 154) (v := (nI 1)) dX9_init_154 kI_1 ?_
    refine S_iconst (pc := 155) (v := (nI 3)) dX9_init_155 kI_3 ?_
    refine S_iconst (pc := 156) (v := (nI 3)) dX9_init_156 kI_3 ?_
    refine S_iconst (pc := 157) (v := (-1 : Int32)) dX9_init_157 kI_m1 ?_
    refine S_iconst (pc := 158) (v := (nI 0)) dX9_init_158 kI_0 ?_
    refine S_iconst (pc := 159) (v := (nI 0)) dX9_init_159 kI_0 ?_
    refine Y_Vi (pc := 160) (st := []) (kc' := 7) (ks' := 7008) (ktX9_adds r0 v1 (nI 0) (nI 1) (nI 1) (nI 3) (nI 3) (-1 : Int32) (nI 0) (nI 0)) mw_X9_adds mv_X9_adds w1182 (RO.mk rfl rfl rfl rfl) rfl rfl rfl dX9_init_160 ⟨rfl, rfl⟩ (fun x_38 => ?_)
    refine S_pop (pc := 163) rfl dX9_init_163 ?_
    refine S_aload_n (pc := 164) dX9_init_164 rfl ?_
    refine S_gP (pc := 165) fl_X9_7 rfl dX9_init_165 (fun a_39 => ?_)
    refine S_iload_n (pc := 168) dX9_init_168 rfl ?_
    refine S_iconst (pc := 169) (v := (nI 1)) dX9_init_169 kI_1 ?_
    refine Y_Ti (pc := 170) (st := [.ref a_39]) (kc' := 7) (ks' := 7008) (ktX9_member v1 (nI 1)) mw_X9_member w1191 w1190 (RO.mk rfl rfl rfl rfl) rfl rfl rfl dX9_init_170 ⟨rfl, rfl⟩ (fun x_40 => ?_)
    refine S_bipush (pc := 173) (v := (nI 9)) dX9_init_173 kB_9 ?_
    refine S_iadd (pc := 175) dX9_init_175 ?_
    refine S_bipush (pc := 176) (v := (nI 7)) dX9_init_176 kB_7 ?_
    refine S_stI (pc := 178) dX9_init_178 ?_
    refine S_aload_n (pc := 179) dX9_init_179 rfl ?_
    refine S_iload_n (pc := 180) dX9_init_180 rfl ?_
    refine S_iconst (pc := 181) (v := (nI 1)) dX9_init_181 kI_1 ?_
    refine S_iconst (pc := 182) (v := (nI 1)) dX9_init_182 kI_1 ?_
    refine S_iconst (pc := 183) (v := (nI 0)) dX9_init_183 kI_0 ?_
    refine S_iconst (pc := 184) (v := (nI 3)) dX9_init_184 kI_3 ?_
    refine S_iconst (pc := 185) (v := (nI 0)) dX9_init_185 kI_0 ?_
    refine S_iconst (pc := 186) (v := (-1 : Int32)) dX9_init_186 kI_m1 ?_
    refine S_iconst (pc := 187) (v := (nI 0)) dX9_init_187 kI_0 ?_
    refine S_iconst (pc := 188) (v := (nI 0)) dX9_init_188 kI_0 ?_
    refine Y_Vi (pc := 189) (st := []) (kc' := 7) (ks' := 7008) (ktX9_adds r0 v1 (nI 1) (nI 1) (nI 0) (nI 3) (nI 0) (-1 : Int32) (nI 0) (nI 0)) mw_X9_adds mv_X9_adds w1182 (RO.mk rfl rfl rfl rfl) rfl rfl rfl dX9_init_189 ⟨rfl, rfl⟩ (fun x_41 => ?_)
    refine S_pop (pc := 192) rfl dX9_init_192 ?_
    refine S_aload_n (pc := 193) dX9_init_193 rfl ?_
    refine S_iload_n (pc := 194) dX9_init_194 rfl ?_
    refine S_iconst (pc := 195) (v := (nI 1)) dX9_init_195 kI_1 ?_
    refine S_iconst (pc := 196) (v := (nI 1)) dX9_init_196 kI_1 ?_
    refine S_iconst (pc := 197) (v := (nI 1)) dX9_init_197 kI_1 ?_
    refine S_iconst (pc := 198) (v := (nI 2)) dX9_init_198 kI_2 ?_
    refine S_iconst (pc := 199) (v := (nI 0)) dX9_init_199 kI_0 ?_
    refine S_iconst (pc := 200) (v := (-1 : Int32)) dX9_init_200 kI_m1 ?_
    refine S_iconst (pc := 201) (v := (nI 1)) dX9_init_201 kI_1 ?_
    refine S_iconst (pc := 202) (v := (nI 1)) dX9_init_202 kI_1 ?_
    refine Y_Vi (pc := 203) (st := []) (kc' := 7) (ks' := 7008) (ktX9_adds r0 v1 (nI 1) (nI 1) (nI 1) (nI 2) (nI 0) (-1 : Int32) (nI 1) (nI 1)) mw_X9_adds mv_X9_adds w1182 (RO.mk rfl rfl rfl rfl) rfl rfl rfl dX9_init_203 ⟨rfl, rfl⟩ (fun x_42 => ?_)
    refine S_pop (pc := 206) rfl dX9_init_206 ?_
    refine S_aload_n (pc := 207) dX9_init_207 rfl ?_
    refine S_iload_n (pc := 208) dX9_init_208 rfl ?_
    refine S_iconst (pc := 209) (v := (nI 1)) dX9_init_209 kI_1 ?_
    refine S_iconst (pc := 210) (v := (nI 2)) dX9_init_210 kI_2 ?_
    refine S_iconst (pc := 211) (v := (nI 2)) dX9_init_211 kI_2 ?_
    refine S_iconst (pc := 212) (v := (nI 3)) dX9_init_212 kI_3 ?_
    refine S_iconst (pc := 213) (v := (nI 4)) dX9_init_213 kI_4 ?_
    refine S_iconst (pc := 214) (v := (nI 1)) dX9_init_214 kI_1 ?_
    refine S_iconst (pc := 215) (v := (nI 0)) dX9_init_215 kI_0 ?_
    refine S_iconst (pc := 216) (v := (nI 0)) dX9_init_216 kI_0 ?_
    refine Y_Vi (pc := 217) (st := []) (kc' := 7) (ks' := 7008) (ktX9_adds r0 v1 (nI 1) (nI 2) (nI 2) (nI 3) (nI 4) (nI 1) (nI 0) (nI 0)) mw_X9_adds mv_X9_adds w1182 (RO.mk rfl rfl rfl rfl) rfl rfl rfl dX9_init_217 ⟨rfl, rfl⟩ (fun x_43 => ?_)
    refine S_pop (pc := 220) rfl dX9_init_220 ?_
    refine S_aload_n (pc := 221) dX9_init_221 rfl ?_
    refine S_iload_n (pc := 222) dX9_init_222 rfl ?_
    refine S_iconst (pc := 223) (v := (nI 1)) dX9_init_223 kI_1 ?_
    refine S_iconst (pc := 224) (v := (nI 3)) dX9_init_224 kI_3 ?_
    refine S_iconst (pc := 225) (v := (nI 2)) dX9_init_225 kI_2 ?_
    refine S_iconst (pc := 226) (v := (nI 3)) dX9_init_226 kI_3 ?_
    refine S_iconst (pc := 227) (v := (nI 0)) dX9_init_227 kI_0 ?_
    refine S_iconst (pc := 228) (v := (nI 1)) dX9_init_228 kI_1 ?_
    refine S_iconst (pc := 229) (v := (nI 0)) dX9_init_229 kI_0 ?_
    refine S_iconst (pc := 230) (v := (nI 0)) dX9_init_230 kI_0 ?_
    refine Y_Vi (pc := 231) (st := []) (kc' := 7) (ks' := 7008) (ktX9_adds r0 v1 (nI 1) (nI 3) (nI 2) (nI 3) (nI 0) (nI 1) (nI 0) (nI 0)) mw_X9_adds mv_X9_adds w1182 (RO.mk rfl rfl rfl rfl) rfl rfl rfl dX9_init_231 ⟨rfl, rfl⟩ (fun x_44 => ?_)
    refine S_pop (pc := 234) rfl dX9_init_234 ?_
    refine S_aload_n (pc := 235) dX9_init_235 rfl ?_
    refine S_iload_n (pc := 236) dX9_init_236 rfl ?_
    refine S_iconst (pc := 237) (v := (nI 1)) dX9_init_237 kI_1 ?_
    refine S_iconst (pc := 238) (v := (nI 3)) dX9_init_238 kI_3 ?_
    refine S_iconst (pc := 239) (v := (nI 0)) dX9_init_239 kI_0 ?_
    refine S_iconst (pc := 240) (v := (nI 3)) dX9_init_240 kI_3 ?_
    refine S_iconst (pc := 241) (v := (nI 0)) dX9_init_241 kI_0 ?_
    refine S_iconst (pc := 242) (v := (-1 : Int32)) dX9_init_242 kI_m1 ?_
    refine S_iconst (pc := 243) (v := (nI 0)) dX9_init_243 kI_0 ?_
    refine S_iconst (pc := 244) (v := (nI 0)) dX9_init_244 kI_0 ?_
    refine Y_Vi (pc := 245) (st := []) (kc' := 7) (ks' := 7008) (ktX9_adds r0 v1 (nI 1) (nI 3) (nI 0) (nI 3) (nI 0) (-1 : Int32) (nI 0) (nI 0)) mw_X9_adds mv_X9_adds w1182 (RO.mk rfl rfl rfl rfl) rfl rfl rfl dX9_init_245 ⟨rfl, rfl⟩ (fun x_45 => ?_)
    refine S_pop (pc := 248) rfl dX9_init_248 ?_
    refine S_aload_n (pc := 249) dX9_init_249 rfl ?_
    refine S_iload_n (pc := 250) dX9_init_250 rfl ?_
    refine S_iconst (pc := 251) (v := (nI 1)) dX9_init_251 kI_1 ?_
    refine S_iconst (pc := 252) (v := (nI 4)) dX9_init_252 kI_4 ?_
    refine S_iconst (pc := 253) (v := (nI 1)) dX9_init_253 kI_1 ?_
    refine S_iconst (pc := 254) (v := (nI 3)) dX9_init_254 kI_3 ?_
    refine S_iconst (pc := 255) (v := (nI 0)) dX9_init_255 kI_0 ?_
    refine S_iconst (pc := 256) (v := (-1 : Int32)) dX9_init_256 kI_m1 ?_
    refine S_iconst (pc := 257) (v := (nI 1)) dX9_init_257 kI_1 ?_
    refine S_iconst (pc := 258) (v := (nI 3)) dX9_init_258 kI_3 ?_
    refine Y_Vi (pc := 259) (st := []) (kc' := 7) (ks' := 7008) (ktX9_adds r0 v1 (nI 1) (nI 4) (nI 1) (nI 3) (nI 0) (-1 : Int32) (nI 1) (nI 3)) mw_X9_adds mv_X9_adds w1182 (RO.mk rfl rfl rfl rfl) rfl rfl rfl dX9_init_259 ⟨rfl, rfl⟩ (fun x_46 => ?_)
    refine S_pop (pc := 262) rfl dX9_init_262 ?_
    refine Z_iinc (pc := 263) (v := (nI 1)) (lv' := [some (.ref r0), some (.int (v1 + (nI 1)))]) dX9_init_263 rfl kI_1 rfl rfl rfl ?_
    refine S_goto (pc := 266) (tgt := 70) dX9_init_266 (by decide) ?_
    exact (h70 r0 (v1 + (nI 1)))
theorem sX9_init_70  : ∀ (n : Nat) (r0 : Nat) (v1 : Int32), Sm mX9_init rV 7 7008 70 [some (.ref r0), some (.int v1)] [] (lX9_init_70 n r0 v1)
  | 0, _, _ => S_none
  | n + 1, r0, v1 => sbX9_init_70 (sX9_init_70 n) r0 v1
theorem sX9_init  (r0 : Nat) : Sm mX9_init rV 0 0 0 [some (.ref r0), none] [] (fX9_init r0) := by
  unfold fX9_init
  refine S_aload_n (pc := 0) dX9_init_0 rfl ?_
  refine S_obj (pc := 1) w1174 w25 w26 ⟨rfl, rfl⟩ dX9_init_1 ?_
  refine S_aload_n (pc := 4) dX9_init_4 rfl ?_
  refine S_sipush (pc := 5) (v := (nI 1155)) dX9_init_5 kS_1155 ?_
  refine S_nwI (pc := 8) (N := 1155) w119 (by decide) ⟨rfl, rfl, rfl⟩ dX9_init_8 (fun a_47 => ?_)
  refine S_pF (pc := 10) fl_X9_7 rfl rfl rfl (fun r hr => by cases hr; rfl) dX9_init_10 ?_
  refine S_aload_n (pc := 13) dX9_init_13 rfl ?_
  refine S_sipush (pc := 14) (v := (nI 5775)) dX9_init_14 kS_5775 ?_
  refine S_nwI (pc := 17) (N := 5775) w119 (by decide) ⟨rfl, rfl, rfl⟩ dX9_init_17 (fun a_48 => ?_)
  refine S_pF (pc := 19) fl_X9_13 rfl rfl rfl (fun r hr => by cases hr; rfl) dX9_init_19 ?_
  refine S_aload_n (pc := 22) dX9_init_22 rfl ?_
  refine S_iconst (pc := 23) (v := (nI 4)) dX9_init_23 kI_4 ?_
  refine S_nwI (pc := 24) (N := 4) w119 (by decide) ⟨rfl, rfl, rfl⟩ dX9_init_24 (fun a_49 => ?_)
  refine S_pF (pc := 26) fl_X9_16 rfl rfl rfl (fun r hr => by cases hr; rfl) dX9_init_26 ?_
  refine S_aload_n (pc := 29) dX9_init_29 rfl ?_
  refine S_bipush (pc := 30) (v := (nI 10)) dX9_init_30 kB_10 ?_
  refine S_nwI (pc := 32) (N := 10) w119 (by decide) ⟨rfl, rfl, rfl⟩ dX9_init_32 (fun a_50 => ?_)
  refine S_pF (pc := 34) fl_X9_19 rfl rfl rfl (fun r hr => by cases hr; rfl) dX9_init_34 ?_
  refine S_aload_n (pc := 37) dX9_init_37 rfl ?_
  refine S_bipush (pc := 38) (v := (nI 16)) dX9_init_38 kB_16 ?_
  refine S_nwI (pc := 40) (N := 16) w119 (by decide) ⟨rfl, rfl, rfl⟩ dX9_init_40 (fun a_51 => ?_)
  refine S_pF (pc := 42) fl_X9_22 rfl rfl rfl (fun r hr => by cases hr; rfl) dX9_init_42 ?_
  refine S_aload_n (pc := 45) dX9_init_45 rfl ?_
  refine S_bipush (pc := 46) (v := (nI 8)) dX9_init_46 kB_8 ?_
  refine S_nwI (pc := 48) (N := 8) w119 (by decide) ⟨rfl, rfl, rfl⟩ dX9_init_48 (fun a_52 => ?_)
  refine S_pF (pc := 50) fl_X9_25 rfl rfl rfl (fun r hr => by cases hr; rfl) dX9_init_50 ?_
  refine S_aload_n (pc := 53) dX9_init_53 rfl ?_
  refine S_bipush (pc := 54) (v := (nI 40)) dX9_init_54 kB_40 ?_
  refine S_nwZ (pc := 56) (N := 40) w1406 (by decide) ⟨rfl, rfl, rfl⟩ dX9_init_56 (fun a_53 => ?_)
  refine S_pF (pc := 58) fl_X9_28 rfl rfl rfl (fun r hr => by cases hr; rfl) dX9_init_58 ?_
  refine S_aload_n (pc := 61) dX9_init_61 rfl ?_
  refine S_gP (pc := 62) fl_X9_16 rfl dX9_init_62 (fun a_54 => ?_)
  refine S_iconst (pc := 65) (v := (nI 0)) dX9_init_65 kI_0 ?_
  refine S_iconst (pc := 66) (v := (-1 : Int32)) dX9_init_66 kI_m1 ?_
  refine S_stI (pc := 67) dX9_init_67 ?_
  refine S_iconst (pc := 68) (v := (nI 0)) dX9_init_68 kI_0 ?_
  refine Z_istore_n (pc := 69) (lv' := [some (.ref r0), some (.int (nI 0))]) dX9_init_69 rfl rfl rfl ?_
  exact (sX9_init_70 fuel r0 (nI 0))
theorem ktX9_init (r0 : Nat) : Ct mX9_init rV [.ref r0] (fX9_init r0) := Ct.of (z := 1) pn_X9 rfl rfl rfl (sX9_init r0)
def mX9_isAbove : MI := (yX9_isAbove, cX9_isAbove, 5, (some .boolean), { frames := 2, cells := 0, slots := 0, locals := 44 }, [])
theorem mw_X9_isAbove : MW mX9_isAbove 2 := ⟨w1462, w11, ⟨by decide, by decide⟩, by decide +kernel⟩
theorem mv_X9_isAbove : MV mX9_isAbove 9 := ⟨_, rfl, w1461, wp80⟩
def fX9_isAbove_45 (k5 : Nat → Int32 → Int32 → Int32 → Int32 → AH → Option (Int32 × AH)) (r0 : Nat) (v1 : Int32) (v2 : Int32) (v4 : Int32) (s0 : Int32) : AH → Option (Int32 × AH) := fun h =>
  k5 r0 v1 v2 s0 (v4 + (nI 1)) h
def fX9_isAbove_44 (k5 : Nat → Int32 → Int32 → Int32 → Int32 → AH → Option (Int32 × AH)) (r0 : Nat) (v1 : Int32) (v2 : Int32) (v4 : Int32) : AH → Option (Int32 × AH) := fun h =>
  fX9_isAbove_45 k5 r0 v1 v2 v4 (nI 0) h
def bX9_isAbove_5  (k5 : Nat → Int32 → Int32 → Int32 → Int32 → AH → Option (Int32 × AH)) (r0 : Nat) (v1 : Int32) (v2 : Int32) (v3 : Int32) (v4 : Int32) : AH → Option (Int32 × AH) := fun h =>
  if (nI 10) ≤ v4 then (
    rz v3 v3 h)
  else
  if v3 = 0 then (
    cv 9 r0 (fX9_of r0 v1 v4 (nI 0)) h fun x_5 h =>
    if x_5 = (nI 1) then (
      cv 9 r0 (fX9_of r0 v1 v4 (nI 2)) h fun x_6 h =>
      if x_6 = v2 then (
        fX9_isAbove_45 k5 r0 v1 v2 v4 (nI 1) h)
      else
      fX9_isAbove_44 k5 r0 v1 v2 v4 h)
    else
    fX9_isAbove_44 k5 r0 v1 v2 v4 h)
  else
  fX9_isAbove_45 k5 r0 v1 v2 v4 (nI 1) h
def lX9_isAbove_5  : Nat → Nat → Int32 → Int32 → Int32 → Int32 → AH → Option (Int32 × AH)
  | 0 => fun _ _ _ _ _ _ => none
  | n + 1 => bX9_isAbove_5 (lX9_isAbove_5 n)
def fX9_isAbove  (r0 : Nat) (v1 : Int32) (v2 : Int32) : AH → Option (Int32 × AH) := fun h =>
  lX9_isAbove_5 fuel r0 v1 v2 (nI 0) (nI 1) h
theorem sX9_isAbove_45 {k5 : Nat → Int32 → Int32 → Int32 → Int32 → AH → Option (Int32 × AH)} (h5 : ∀ (r0 : Nat) (v1 : Int32) (v2 : Int32) (v3 : Int32) (v4 : Int32), Sm mX9_isAbove rI 0 0 5 [some (.ref r0), some (.int v1), some (.int v2), some (.int v3), some (.int v4)] [] (k5 r0 v1 v2 v3 v4)) (r0 : Nat) (v1 : Int32) (v2 : Int32) (v4 : Int32) (s0 : Int32) : Sm mX9_isAbove rI 0 0 45 [some (.ref r0), some (.int v1), some (.int v2), none, some (.int v4)] [.int s0] (fX9_isAbove_45 k5 r0 v1 v2 v4 s0) := by
  unfold fX9_isAbove_45
  refine Z_istore_n (pc := 45) (lv' := [some (.ref r0), some (.int v1), some (.int v2), some (.int s0), some (.int v4)]) dX9_isAbove_45 rfl rfl rfl ?_
  refine Z_iinc (pc := 46) (v := (nI 1)) (lv' := [some (.ref r0), some (.int v1), some (.int v2), some (.int s0), some (.int (v4 + (nI 1)))]) dX9_isAbove_46 rfl kI_1 rfl rfl rfl ?_
  refine S_goto (pc := 49) (tgt := 5) dX9_isAbove_49 (by decide) ?_
  exact (h5 r0 v1 v2 s0 (v4 + (nI 1)))
theorem sX9_isAbove_44 {k5 : Nat → Int32 → Int32 → Int32 → Int32 → AH → Option (Int32 × AH)} (h5 : ∀ (r0 : Nat) (v1 : Int32) (v2 : Int32) (v3 : Int32) (v4 : Int32), Sm mX9_isAbove rI 0 0 5 [some (.ref r0), some (.int v1), some (.int v2), some (.int v3), some (.int v4)] [] (k5 r0 v1 v2 v3 v4)) (r0 : Nat) (v1 : Int32) (v2 : Int32) (v4 : Int32) : Sm mX9_isAbove rI 0 0 44 [some (.ref r0), some (.int v1), some (.int v2), none, some (.int v4)] [] (fX9_isAbove_44 k5 r0 v1 v2 v4) := by
  unfold fX9_isAbove_44
  refine S_iconst (pc := 44) (v := (nI 0)) dX9_isAbove_44 kI_0 ?_
  exact (sX9_isAbove_45 h5 r0 v1 v2 v4 (nI 0))
theorem sbX9_isAbove_5  {k5 : Nat → Int32 → Int32 → Int32 → Int32 → AH → Option (Int32 × AH)} (h5 : ∀ (r0 : Nat) (v1 : Int32) (v2 : Int32) (v3 : Int32) (v4 : Int32), Sm mX9_isAbove rI 0 0 5 [some (.ref r0), some (.int v1), some (.int v2), some (.int v3), some (.int v4)] [] (k5 r0 v1 v2 v3 v4)) (r0 : Nat) (v1 : Int32) (v2 : Int32) (v3 : Int32) (v4 : Int32) : Sm mX9_isAbove rI 0 0 5 [some (.ref r0), some (.int v1), some (.int v2), some (.int v3), some (.int v4)] [] (bX9_isAbove_5 k5 r0 v1 v2 v3 v4) := by
  unfold bX9_isAbove_5
  refine S_iload (pc := 5) dX9_isAbove_5 rfl ?_
  refine S_bipush (pc := 7) (v := (nI 10)) dX9_isAbove_7 kB_10 ?_
  refine S_icmpge (pc := 9) (tgt := 52) dX9_isAbove_9 (by decide) ?_ ?_
  · refine S_iload_n (pc := 52) dX9_isAbove_52 rfl ?_
    exact S_zret (pc := 53) ⟨rfl, rfl⟩ rfl rfl dX9_isAbove_53
  · refine S_iload_n (pc := 12) dX9_isAbove_12 rfl ?_
    refine S_ifne (pc := 13) (tgt := 40) dX9_isAbove_13 (by decide) ?_ ?_
    · refine S_iconst (pc := 40) (v := (nI 1)) dX9_isAbove_40 kI_1 ?_
      refine S_goto (pc := 41) (tgt := 45) dX9_isAbove_41 (by decide) ?_
      exact (S_lv (lv0 := [some (.ref r0), some (.int v1), some (.int v2), none, some (.int v4)]) (And.intro rfl (And.intro rfl (And.intro rfl (And.intro rfl trivial)))) (sX9_isAbove_45 h5 r0 v1 v2 v4 (nI 1)))
    · refine S_aload_n (pc := 16) dX9_isAbove_16 rfl ?_
      refine S_iload_n (pc := 17) dX9_isAbove_17 rfl ?_
      refine S_iload (pc := 18) dX9_isAbove_18 rfl ?_
      refine S_iconst (pc := 20) (v := (nI 0)) dX9_isAbove_20 kI_0 ?_
      refine Y_Vi (pc := 21) (st := []) (kc' := 0) (ks' := 0) (ktX9_of r0 v1 v4 (nI 0)) mw_X9_of mv_X9_of w1219 (RO.mk rfl rfl rfl rfl) rfl rfl rfl dX9_isAbove_21 ⟨rfl, rfl⟩ (fun x_5 => ?_)
      refine S_iconst (pc := 24) (v := (nI 1)) dX9_isAbove_24 kI_1 ?_
      refine S_icmpne (pc := 25) (tgt := 44) dX9_isAbove_25 (by decide) ?_ ?_
      · exact (S_lv (lv0 := [some (.ref r0), some (.int v1), some (.int v2), none, some (.int v4)]) (And.intro rfl (And.intro rfl (And.intro rfl (And.intro rfl trivial)))) (sX9_isAbove_44 h5 r0 v1 v2 v4))
      · refine S_aload_n (pc := 28) dX9_isAbove_28 rfl ?_
        refine S_iload_n (pc := 29) dX9_isAbove_29 rfl ?_
        refine S_iload (pc := 30) dX9_isAbove_30 rfl ?_
        refine S_iconst (pc := 32) (v := (nI 2)) dX9_isAbove_32 kI_2 ?_
        refine Y_Vi (pc := 33) (st := []) (kc' := 0) (ks' := 0) (ktX9_of r0 v1 v4 (nI 2)) mw_X9_of mv_X9_of w1219 (RO.mk rfl rfl rfl rfl) rfl rfl rfl dX9_isAbove_33 ⟨rfl, rfl⟩ (fun x_6 => ?_)
        refine S_iload_n (pc := 36) dX9_isAbove_36 rfl ?_
        refine S_icmpne (pc := 37) (tgt := 44) dX9_isAbove_37 (by decide) ?_ ?_
        · exact (S_lv (lv0 := [some (.ref r0), some (.int v1), some (.int v2), none, some (.int v4)]) (And.intro rfl (And.intro rfl (And.intro rfl (And.intro rfl trivial)))) (sX9_isAbove_44 h5 r0 v1 v2 v4))
        · refine S_iconst (pc := 40) (v := (nI 1)) dX9_isAbove_40 kI_1 ?_
          refine S_goto (pc := 41) (tgt := 45) dX9_isAbove_41 (by decide) ?_
          exact (S_lv (lv0 := [some (.ref r0), some (.int v1), some (.int v2), none, some (.int v4)]) (And.intro rfl (And.intro rfl (And.intro rfl (And.intro rfl trivial)))) (sX9_isAbove_45 h5 r0 v1 v2 v4 (nI 1)))
theorem sX9_isAbove_5  : ∀ (n : Nat) (r0 : Nat) (v1 : Int32) (v2 : Int32) (v3 : Int32) (v4 : Int32), Sm mX9_isAbove rI 0 0 5 [some (.ref r0), some (.int v1), some (.int v2), some (.int v3), some (.int v4)] [] (lX9_isAbove_5 n r0 v1 v2 v3 v4)
  | 0, _, _, _, _, _ => S_none
  | n + 1, r0, v1, v2, v3, v4 => sbX9_isAbove_5 (sX9_isAbove_5 n) r0 v1 v2 v3 v4
theorem sX9_isAbove  (r0 : Nat) (v1 : Int32) (v2 : Int32) : Sm mX9_isAbove rI 0 0 0 [some (.ref r0), some (.int v1), some (.int v2), none, none] [] (fX9_isAbove r0 v1 v2) := by
  unfold fX9_isAbove
  refine S_iconst (pc := 0) (v := (nI 0)) dX9_isAbove_0 kI_0 ?_
  refine Z_istore_n (pc := 1) (lv' := [some (.ref r0), some (.int v1), some (.int v2), some (.int (nI 0)), none]) dX9_isAbove_1 rfl rfl rfl ?_
  refine S_iconst (pc := 2) (v := (nI 1)) dX9_isAbove_2 kI_1 ?_
  refine Z_istore (pc := 3) (lv' := [some (.ref r0), some (.int v1), some (.int v2), some (.int (nI 0)), some (.int (nI 1))]) dX9_isAbove_3 rfl rfl rfl ?_
  exact (sX9_isAbove_5 fuel r0 v1 v2 (nI 0) (nI 1))
theorem ktX9_isAbove (r0 : Nat) (v1 : Int32) (v2 : Int32) : Ct mX9_isAbove rI [.ref r0, .int v1, .int v2] (fX9_isAbove r0 v1 v2) := Ct.of (z := 2) pn_X9 rfl rfl rfl (sX9_isAbove r0 v1 v2)
def mX9_isAboveOne : MI := (yX9_isAboveOne, cX9_isAboveOne, 5, (some .boolean), { frames := 2, cells := 0, slots := 0, locals := 44 }, [])
theorem mw_X9_isAboveOne : MW mX9_isAboveOne 2 := ⟨w1446, w11, ⟨by decide, by decide⟩, by decide +kernel⟩
theorem mv_X9_isAboveOne : MV mX9_isAboveOne 9 := ⟨_, rfl, w1445, wp77⟩
def fX9_isAboveOne_60 (k5 : Nat → Int32 → Int32 → Int32 → Int32 → AH → Option (Int32 × AH)) (r0 : Nat) (v1 : Int32) (v2 : Int32) (v4 : Int32) (s0 : Int32) : AH → Option (Int32 × AH) := fun h =>
  k5 r0 v1 v2 s0 (v4 + (nI 1)) h
def fX9_isAboveOne_59 (k5 : Nat → Int32 → Int32 → Int32 → Int32 → AH → Option (Int32 × AH)) (r0 : Nat) (v1 : Int32) (v2 : Int32) (v4 : Int32) : AH → Option (Int32 × AH) := fun h =>
  fX9_isAboveOne_60 k5 r0 v1 v2 v4 (nI 0) h
def bX9_isAboveOne_5  (k5 : Nat → Int32 → Int32 → Int32 → Int32 → AH → Option (Int32 × AH)) (r0 : Nat) (v1 : Int32) (v2 : Int32) (v3 : Int32) (v4 : Int32) : AH → Option (Int32 × AH) := fun h =>
  if (nI 10) ≤ v4 then (
    rz v3 v3 h)
  else
  if v3 = 0 then (
    cv 9 r0 (fX9_of r0 v1 v4 (nI 0)) h fun x_9 h =>
    if x_9 = (nI 1) then (
      cv 9 r0 (fX9_of r0 v1 v4 (nI 2)) h fun x_10 h =>
      if x_10 = v2 then (
        fX9_isAboveOne_60 k5 r0 v1 v2 v4 (nI 1) h)
      else
      cv 9 r0 (fX9_of r0 v1 v4 (nI 3)) h fun x_11 h =>
      bd (fX9_has x_11 v2 h) fun x_12 h =>
      if x_12 = 0 then (
        fX9_isAboveOne_59 k5 r0 v1 v2 v4 h)
      else
      fX9_isAboveOne_60 k5 r0 v1 v2 v4 (nI 1) h)
    else
    fX9_isAboveOne_59 k5 r0 v1 v2 v4 h)
  else
  fX9_isAboveOne_60 k5 r0 v1 v2 v4 (nI 1) h
def lX9_isAboveOne_5  : Nat → Nat → Int32 → Int32 → Int32 → Int32 → AH → Option (Int32 × AH)
  | 0 => fun _ _ _ _ _ _ => none
  | n + 1 => bX9_isAboveOne_5 (lX9_isAboveOne_5 n)
def fX9_isAboveOne  (r0 : Nat) (v1 : Int32) (v2 : Int32) : AH → Option (Int32 × AH) := fun h =>
  lX9_isAboveOne_5 fuel r0 v1 v2 (nI 0) (nI 1) h
theorem sX9_isAboveOne_60 {k5 : Nat → Int32 → Int32 → Int32 → Int32 → AH → Option (Int32 × AH)} (h5 : ∀ (r0 : Nat) (v1 : Int32) (v2 : Int32) (v3 : Int32) (v4 : Int32), Sm mX9_isAboveOne rI 0 0 5 [some (.ref r0), some (.int v1), some (.int v2), some (.int v3), some (.int v4)] [] (k5 r0 v1 v2 v3 v4)) (r0 : Nat) (v1 : Int32) (v2 : Int32) (v4 : Int32) (s0 : Int32) : Sm mX9_isAboveOne rI 0 0 60 [some (.ref r0), some (.int v1), some (.int v2), none, some (.int v4)] [.int s0] (fX9_isAboveOne_60 k5 r0 v1 v2 v4 s0) := by
  unfold fX9_isAboveOne_60
  refine Z_istore_n (pc := 60) (lv' := [some (.ref r0), some (.int v1), some (.int v2), some (.int s0), some (.int v4)]) dX9_isAboveOne_60 rfl rfl rfl ?_
  refine Z_iinc (pc := 61) (v := (nI 1)) (lv' := [some (.ref r0), some (.int v1), some (.int v2), some (.int s0), some (.int (v4 + (nI 1)))]) dX9_isAboveOne_61 rfl kI_1 rfl rfl rfl ?_
  refine S_goto (pc := 64) (tgt := 5) dX9_isAboveOne_64 (by decide) ?_
  exact (h5 r0 v1 v2 s0 (v4 + (nI 1)))
theorem sX9_isAboveOne_59 {k5 : Nat → Int32 → Int32 → Int32 → Int32 → AH → Option (Int32 × AH)} (h5 : ∀ (r0 : Nat) (v1 : Int32) (v2 : Int32) (v3 : Int32) (v4 : Int32), Sm mX9_isAboveOne rI 0 0 5 [some (.ref r0), some (.int v1), some (.int v2), some (.int v3), some (.int v4)] [] (k5 r0 v1 v2 v3 v4)) (r0 : Nat) (v1 : Int32) (v2 : Int32) (v4 : Int32) : Sm mX9_isAboveOne rI 0 0 59 [some (.ref r0), some (.int v1), some (.int v2), none, some (.int v4)] [] (fX9_isAboveOne_59 k5 r0 v1 v2 v4) := by
  unfold fX9_isAboveOne_59
  refine S_iconst (pc := 59) (v := (nI 0)) dX9_isAboveOne_59 kI_0 ?_
  exact (sX9_isAboveOne_60 h5 r0 v1 v2 v4 (nI 0))
theorem sbX9_isAboveOne_5  {k5 : Nat → Int32 → Int32 → Int32 → Int32 → AH → Option (Int32 × AH)} (h5 : ∀ (r0 : Nat) (v1 : Int32) (v2 : Int32) (v3 : Int32) (v4 : Int32), Sm mX9_isAboveOne rI 0 0 5 [some (.ref r0), some (.int v1), some (.int v2), some (.int v3), some (.int v4)] [] (k5 r0 v1 v2 v3 v4)) (r0 : Nat) (v1 : Int32) (v2 : Int32) (v3 : Int32) (v4 : Int32) : Sm mX9_isAboveOne rI 0 0 5 [some (.ref r0), some (.int v1), some (.int v2), some (.int v3), some (.int v4)] [] (bX9_isAboveOne_5 k5 r0 v1 v2 v3 v4) := by
  unfold bX9_isAboveOne_5
  refine S_iload (pc := 5) dX9_isAboveOne_5 rfl ?_
  refine S_bipush (pc := 7) (v := (nI 10)) dX9_isAboveOne_7 kB_10 ?_
  refine S_icmpge (pc := 9) (tgt := 67) dX9_isAboveOne_9 (by decide) ?_ ?_
  · refine S_iload_n (pc := 67) dX9_isAboveOne_67 rfl ?_
    exact S_zret (pc := 68) ⟨rfl, rfl⟩ rfl rfl dX9_isAboveOne_68
  · refine S_iload_n (pc := 12) dX9_isAboveOne_12 rfl ?_
    refine S_ifne (pc := 13) (tgt := 55) dX9_isAboveOne_13 (by decide) ?_ ?_
    · refine S_iconst (pc := 55) (v := (nI 1)) dX9_isAboveOne_55 kI_1 ?_
      refine S_goto (pc := 56) (tgt := 60) dX9_isAboveOne_56 (by decide) ?_
      exact (S_lv (lv0 := [some (.ref r0), some (.int v1), some (.int v2), none, some (.int v4)]) (And.intro rfl (And.intro rfl (And.intro rfl (And.intro rfl trivial)))) (sX9_isAboveOne_60 h5 r0 v1 v2 v4 (nI 1)))
    · refine S_aload_n (pc := 16) dX9_isAboveOne_16 rfl ?_
      refine S_iload_n (pc := 17) dX9_isAboveOne_17 rfl ?_
      refine S_iload (pc := 18) dX9_isAboveOne_18 rfl ?_
      refine S_iconst (pc := 20) (v := (nI 0)) dX9_isAboveOne_20 kI_0 ?_
      refine Y_Vi (pc := 21) (st := []) (kc' := 0) (ks' := 0) (ktX9_of r0 v1 v4 (nI 0)) mw_X9_of mv_X9_of w1219 (RO.mk rfl rfl rfl rfl) rfl rfl rfl dX9_isAboveOne_21 ⟨rfl, rfl⟩ (fun x_9 => ?_)
      refine S_iconst (pc := 24) (v := (nI 1)) dX9_isAboveOne_24 kI_1 ?_
      refine S_icmpne (pc := 25) (tgt := 59) dX9_isAboveOne_25 (by decide) ?_ ?_
      · exact (S_lv (lv0 := [some (.ref r0), some (.int v1), some (.int v2), none, some (.int v4)]) (And.intro rfl (And.intro rfl (And.intro rfl (And.intro rfl trivial)))) (sX9_isAboveOne_59 h5 r0 v1 v2 v4))
      · refine S_aload_n (pc := 28) dX9_isAboveOne_28 rfl ?_
        refine S_iload_n (pc := 29) dX9_isAboveOne_29 rfl ?_
        refine S_iload (pc := 30) dX9_isAboveOne_30 rfl ?_
        refine S_iconst (pc := 32) (v := (nI 2)) dX9_isAboveOne_32 kI_2 ?_
        refine Y_Vi (pc := 33) (st := []) (kc' := 0) (ks' := 0) (ktX9_of r0 v1 v4 (nI 2)) mw_X9_of mv_X9_of w1219 (RO.mk rfl rfl rfl rfl) rfl rfl rfl dX9_isAboveOne_33 ⟨rfl, rfl⟩ (fun x_10 => ?_)
        refine S_iload_n (pc := 36) dX9_isAboveOne_36 rfl ?_
        refine S_icmpeq (pc := 37) (tgt := 55) dX9_isAboveOne_37 (by decide) ?_ ?_
        · refine S_iconst (pc := 55) (v := (nI 1)) dX9_isAboveOne_55 kI_1 ?_
          refine S_goto (pc := 56) (tgt := 60) dX9_isAboveOne_56 (by decide) ?_
          exact (S_lv (lv0 := [some (.ref r0), some (.int v1), some (.int v2), none, some (.int v4)]) (And.intro rfl (And.intro rfl (And.intro rfl (And.intro rfl trivial)))) (sX9_isAboveOne_60 h5 r0 v1 v2 v4 (nI 1)))
        · refine S_aload_n (pc := 40) dX9_isAboveOne_40 rfl ?_
          refine S_iload_n (pc := 41) dX9_isAboveOne_41 rfl ?_
          refine S_iload (pc := 42) dX9_isAboveOne_42 rfl ?_
          refine S_iconst (pc := 44) (v := (nI 3)) dX9_isAboveOne_44 kI_3 ?_
          refine Y_Vi (pc := 45) (st := []) (kc' := 0) (ks' := 0) (ktX9_of r0 v1 v4 (nI 3)) mw_X9_of mv_X9_of w1219 (RO.mk rfl rfl rfl rfl) rfl rfl rfl dX9_isAboveOne_45 ⟨rfl, rfl⟩ (fun x_11 => ?_)
          refine S_iload_n (pc := 48) dX9_isAboveOne_48 rfl ?_
          refine Y_Ti (pc := 49) (st := []) (kc' := 0) (ks' := 0) (ktX9_has x_11 v2) mw_X9_has w1252 w1251 (RO.mk rfl rfl rfl rfl) rfl rfl rfl dX9_isAboveOne_49 ⟨rfl, rfl⟩ (fun x_12 => ?_)
          refine S_ifeq (pc := 52) (tgt := 59) dX9_isAboveOne_52 (by decide) ?_ ?_
          · exact (S_lv (lv0 := [some (.ref r0), some (.int v1), some (.int v2), none, some (.int v4)]) (And.intro rfl (And.intro rfl (And.intro rfl (And.intro rfl trivial)))) (sX9_isAboveOne_59 h5 r0 v1 v2 v4))
          · refine S_iconst (pc := 55) (v := (nI 1)) dX9_isAboveOne_55 kI_1 ?_
            refine S_goto (pc := 56) (tgt := 60) dX9_isAboveOne_56 (by decide) ?_
            exact (S_lv (lv0 := [some (.ref r0), some (.int v1), some (.int v2), none, some (.int v4)]) (And.intro rfl (And.intro rfl (And.intro rfl (And.intro rfl trivial)))) (sX9_isAboveOne_60 h5 r0 v1 v2 v4 (nI 1)))
theorem sX9_isAboveOne_5  : ∀ (n : Nat) (r0 : Nat) (v1 : Int32) (v2 : Int32) (v3 : Int32) (v4 : Int32), Sm mX9_isAboveOne rI 0 0 5 [some (.ref r0), some (.int v1), some (.int v2), some (.int v3), some (.int v4)] [] (lX9_isAboveOne_5 n r0 v1 v2 v3 v4)
  | 0, _, _, _, _, _ => S_none
  | n + 1, r0, v1, v2, v3, v4 => sbX9_isAboveOne_5 (sX9_isAboveOne_5 n) r0 v1 v2 v3 v4
theorem sX9_isAboveOne  (r0 : Nat) (v1 : Int32) (v2 : Int32) : Sm mX9_isAboveOne rI 0 0 0 [some (.ref r0), some (.int v1), some (.int v2), none, none] [] (fX9_isAboveOne r0 v1 v2) := by
  unfold fX9_isAboveOne
  refine S_iconst (pc := 0) (v := (nI 0)) dX9_isAboveOne_0 kI_0 ?_
  refine Z_istore_n (pc := 1) (lv' := [some (.ref r0), some (.int v1), some (.int v2), some (.int (nI 0)), none]) dX9_isAboveOne_1 rfl rfl rfl ?_
  refine S_iconst (pc := 2) (v := (nI 1)) dX9_isAboveOne_2 kI_1 ?_
  refine Z_istore (pc := 3) (lv' := [some (.ref r0), some (.int v1), some (.int v2), some (.int (nI 0)), some (.int (nI 1))]) dX9_isAboveOne_3 rfl rfl rfl ?_
  exact (sX9_isAboveOne_5 fuel r0 v1 v2 (nI 0) (nI 1))
theorem ktX9_isAboveOne (r0 : Nat) (v1 : Int32) (v2 : Int32) : Ct mX9_isAboveOne rI [.ref r0, .int v1, .int v2] (fX9_isAboveOne r0 v1 v2) := Ct.of (z := 2) pn_X9 rfl rfl rfl (sX9_isAboveOne r0 v1 v2)
def mX9_isMember : MI := (yX9_isMember, cX9_isMember, 3, (some .boolean), { frames := 2, cells := 0, slots := 0, locals := 42 }, [])
theorem mw_X9_isMember : MW mX9_isMember 2 := ⟨w1517, w11, ⟨by decide, by decide⟩, by decide +kernel⟩
theorem mv_X9_isMember : MV mX9_isMember 9 := ⟨_, rfl, w1516, wp86⟩
def fX9_isMember  (r0 : Nat) (v1 : Int32) (v2 : Int32) : AH → Option (Int32 × AH) := fun h =>
  bd (fX9_isVersion v1 h) fun x_4 h =>
  if x_4 = 0 then (
    rz (nI 0) (nI 0) h)
  else
  cv 9 r0 (fX9_memberMany r0 v1) h fun x_5 h =>
  bd (fX9_within v2 (nI 0) (x_5 - (nI 1)) h) fun x_6 h =>
  if x_6 = 0 then (
    rz (nI 0) (nI 0) h)
  else
  rz (nI 1) (nI 1) h
theorem sX9_isMember  (r0 : Nat) (v1 : Int32) (v2 : Int32) : Sm mX9_isMember rI 0 0 0 [some (.ref r0), some (.int v1), some (.int v2)] [] (fX9_isMember r0 v1 v2) := by
  unfold fX9_isMember
  refine S_iload_n (pc := 0) dX9_isMember_0 rfl ?_
  refine Y_Ti (pc := 1) (st := []) (kc' := 0) (ks' := 0) (ktX9_isVersion v1) mw_X9_isVersion w1214 w1213 (RO.mk rfl rfl rfl rfl) rfl rfl rfl dX9_isMember_1 ⟨rfl, rfl⟩ (fun x_4 => ?_)
  refine S_ifeq (pc := 4) (tgt := 26) dX9_isMember_4 (by decide) ?_ ?_
  · refine S_iconst (pc := 26) (v := (nI 0)) dX9_isMember_26 kI_0 ?_
    exact S_zret (pc := 27) ⟨rfl, rfl⟩ rfl rfl dX9_isMember_27
  · refine S_iload_n (pc := 7) dX9_isMember_7 rfl ?_
    refine S_iconst (pc := 8) (v := (nI 0)) dX9_isMember_8 kI_0 ?_
    refine S_aload_n (pc := 9) dX9_isMember_9 rfl ?_
    refine S_iload_n (pc := 10) dX9_isMember_10 rfl ?_
    refine Y_Vi (pc := 11) (st := [.int (nI 0), .int v2]) (kc' := 0) (ks' := 0) (ktX9_memberMany r0 v1) mw_X9_memberMany mv_X9_memberMany w1186 (RO.mk rfl rfl rfl rfl) rfl rfl rfl dX9_isMember_11 ⟨rfl, rfl⟩ (fun x_5 => ?_)
    refine S_iconst (pc := 14) (v := (nI 1)) dX9_isMember_14 kI_1 ?_
    refine S_isub (pc := 15) dX9_isMember_15 ?_
    refine Y_Ti (pc := 16) (st := []) (kc' := 0) (ks' := 0) (ktX9_within v2 (nI 0) (x_5 - (nI 1))) mw_X9_within w1217 w1216 (RO.mk rfl rfl rfl rfl) rfl rfl rfl dX9_isMember_16 ⟨rfl, rfl⟩ (fun x_6 => ?_)
    refine S_ifeq (pc := 19) (tgt := 26) dX9_isMember_19 (by decide) ?_ ?_
    · refine S_iconst (pc := 26) (v := (nI 0)) dX9_isMember_26 kI_0 ?_
      exact S_zret (pc := 27) ⟨rfl, rfl⟩ rfl rfl dX9_isMember_27
    · refine S_iconst (pc := 22) (v := (nI 1)) dX9_isMember_22 kI_1 ?_
      refine S_goto (pc := 23) (tgt := 27) dX9_isMember_23 (by decide) ?_
      exact S_zret (pc := 27) ⟨rfl, rfl⟩ rfl rfl dX9_isMember_27
theorem ktX9_isMember (r0 : Nat) (v1 : Int32) (v2 : Int32) : Ct mX9_isMember rI [.ref r0, .int v1, .int v2] (fX9_isMember r0 v1 v2) := Ct.of (z := 0) pn_X9 rfl rfl rfl (sX9_isMember r0 v1 v2)
def mX9_isSought : MI := (yX9_isSought, cX9_isSought, 3, (some .boolean), { frames := 11, cells := 0, slots := 0, locals := 269 }, [])
theorem mw_X9_isSought : MW mX9_isSought 1 := ⟨w1664, w11, ⟨by decide, by decide⟩, by decide +kernel⟩
theorem mv_X9_isSought : MV mX9_isSought 9 := ⟨_, rfl, w1663, wp103⟩
def fX9_isSought_13  (r0 : Nat) (v1 : Int32) (s0 : Int32) : AH → Option (Int32 × AH) := fun h =>
  cv 9 r0 (fX9_keepsReference r0) h fun _ h =>
  if s0 = 0 then (
    rz (nI 0) (nI 0) h)
  else
  cv 9 r0 (fX9_judged r0) h fun x_5 h =>
  if x_5 = v1 then (
    rz (nI 1) (nI 1) h)
  else
  rz (nI 0) (nI 0) h
def fX9_isSought  (r0 : Nat) (v1 : Int32) : AH → Option (Int32 × AH) := fun h =>
  cv 9 r0 (fX9_compiled r0 (nI 0)) h fun x_6 h =>
  if x_6 = 0 then (
    fX9_isSought_13 r0 v1 (nI 1) h)
  else
  fX9_isSought_13 r0 v1 (nI 0) h
theorem sX9_isSought_13  (r0 : Nat) (v1 : Int32) (s0 : Int32) : Sm mX9_isSought rI 0 0 13 [some (.ref r0), some (.int v1), none] [.int s0] (fX9_isSought_13 r0 v1 s0) := by
  unfold fX9_isSought_13
  refine Z_istore_n (pc := 13) (lv' := [some (.ref r0), some (.int v1), some (.int s0)]) dX9_isSought_13 rfl rfl rfl ?_
  refine S_aload_n (pc := 14) dX9_isSought_14 rfl ?_
  refine Y_Vv (pc := 15) (st := []) (kc' := 0) (ks' := 0) (ktX9_keepsReference r0) mw_X9_keepsReference mv_X9_keepsReference w1330 (RO.mk rfl rfl rfl rfl) rfl rfl rfl dX9_isSought_15 ⟨rfl, rfl⟩ ?_
  refine S_iload_n (pc := 18) dX9_isSought_18 rfl ?_
  refine S_ifeq (pc := 19) (tgt := 34) dX9_isSought_19 (by decide) ?_ ?_
  · refine S_iconst (pc := 34) (v := (nI 0)) dX9_isSought_34 kI_0 ?_
    exact S_zret (pc := 35) ⟨rfl, rfl⟩ rfl rfl dX9_isSought_35
  · refine S_aload_n (pc := 22) dX9_isSought_22 rfl ?_
    refine Y_Vi (pc := 23) (st := []) (kc' := 0) (ks' := 0) (ktX9_judged r0) mw_X9_judged mv_X9_judged w1641 (RO.mk rfl rfl rfl rfl) rfl rfl rfl dX9_isSought_23 ⟨rfl, rfl⟩ (fun x_5 => ?_)
    refine S_iload_n (pc := 26) dX9_isSought_26 rfl ?_
    refine S_icmpne (pc := 27) (tgt := 34) dX9_isSought_27 (by decide) ?_ ?_
    · refine S_iconst (pc := 34) (v := (nI 0)) dX9_isSought_34 kI_0 ?_
      exact S_zret (pc := 35) ⟨rfl, rfl⟩ rfl rfl dX9_isSought_35
    · refine S_iconst (pc := 30) (v := (nI 1)) dX9_isSought_30 kI_1 ?_
      refine S_goto (pc := 31) (tgt := 35) dX9_isSought_31 (by decide) ?_
      exact S_zret (pc := 35) ⟨rfl, rfl⟩ rfl rfl dX9_isSought_35
theorem sX9_isSought  (r0 : Nat) (v1 : Int32) : Sm mX9_isSought rI 0 0 0 [some (.ref r0), some (.int v1), none] [] (fX9_isSought r0 v1) := by
  unfold fX9_isSought
  refine S_aload_n (pc := 0) dX9_isSought_0 rfl ?_
  refine S_iconst (pc := 1) (v := (nI 0)) dX9_isSought_1 kI_0 ?_
  refine Y_Vi (pc := 2) (st := []) (kc' := 0) (ks' := 0) (ktX9_compiled r0 (nI 0)) mw_X9_compiled mv_X9_compiled w1201 (RO.mk rfl rfl rfl rfl) rfl rfl rfl dX9_isSought_2 ⟨rfl, rfl⟩ (fun x_6 => ?_)
  refine S_ifne (pc := 5) (tgt := 12) dX9_isSought_5 (by decide) ?_ ?_
  · refine S_iconst (pc := 12) (v := (nI 0)) dX9_isSought_12 kI_0 ?_
    exact (sX9_isSought_13 r0 v1 (nI 0))
  · refine S_iconst (pc := 8) (v := (nI 1)) dX9_isSought_8 kI_1 ?_
    refine S_goto (pc := 9) (tgt := 13) dX9_isSought_9 (by decide) ?_
    exact (sX9_isSought_13 r0 v1 (nI 1))
theorem ktX9_isSought (r0 : Nat) (v1 : Int32) : Ct mX9_isSought rI [.ref r0, .int v1] (fX9_isSought r0 v1) := Ct.of (z := 1) pn_X9 rfl rfl rfl (sX9_isSought r0 v1)
def mX9_link : MI := (yX9_link, cX9_link, 3, (some .int), { frames := 10, cells := 0, slots := 0, locals := 247 }, [])
theorem mw_X9_link : MW mX9_link 2 := ⟨w1616, w11, ⟨by decide, by decide⟩, by decide +kernel⟩
theorem mv_X9_link : MV mX9_link 9 := ⟨_, rfl, w1614, w1615⟩
def fX9_link_15  (r0 : Nat) (v1 : Int32) (v2 : Int32) (s0 : Nat) (s1 : Int32) : AH → Option (Int32 × AH) := fun h =>
  cv 9 s0 (fX9_refused s0 s1) h fun x_7 h =>
  if x_7 = 0 then (
    cv 9 r0 (fX9_takes r0 v1) h fun _ h =>
    cv 9 r0 (fX9_linked r0 v2) h fun x_8 h =>
    some (x_8, h))
  else
  some ((nI 0), h)
def fX9_link  (r0 : Nat) (v1 : Int32) (v2 : Int32) : AH → Option (Int32 × AH) := fun h =>
  cv 9 r0 (fX9_isBoth r0 v1 v2) h fun x_9 h =>
  if x_9 = 0 then (
    fX9_link_15 r0 v1 v2 r0 (nI 1) h)
  else
  fX9_link_15 r0 v1 v2 r0 (nI 0) h
theorem sX9_link_15  (r0 : Nat) (v1 : Int32) (v2 : Int32) (s0 : Nat) (s1 : Int32) : Sm mX9_link rI 0 0 15 [some (.ref r0), some (.int v1), some (.int v2)] [.int s1, .ref s0] (fX9_link_15 r0 v1 v2 s0 s1) := by
  unfold fX9_link_15
  refine Y_Vi (pc := 15) (st := []) (kc' := 0) (ks' := 0) (ktX9_refused s0 s1) mw_X9_refused mv_X9_refused w1415 (RO.mk rfl rfl rfl rfl) rfl rfl rfl dX9_link_15 ⟨rfl, rfl⟩ (fun x_7 => ?_)
  refine S_ifeq (pc := 18) (tgt := 23) dX9_link_18 (by decide) ?_ ?_
  · refine S_aload_n (pc := 23) dX9_link_23 rfl ?_
    refine S_iload_n (pc := 24) dX9_link_24 rfl ?_
    refine Y_Vv (pc := 25) (st := []) (kc' := 0) (ks' := 0) (ktX9_takes r0 v1) mw_X9_takes mv_X9_takes w1585 (RO.mk rfl rfl rfl rfl) rfl rfl rfl dX9_link_25 ⟨rfl, rfl⟩ ?_
    refine S_aload_n (pc := 28) dX9_link_28 rfl ?_
    refine S_iload_n (pc := 29) dX9_link_29 rfl ?_
    refine Y_Vi (pc := 30) (st := []) (kc' := 0) (ks' := 0) (ktX9_linked r0 v2) mw_X9_linked mv_X9_linked w1617 (RO.mk rfl rfl rfl rfl) rfl rfl rfl dX9_link_30 ⟨rfl, rfl⟩ (fun x_8 => ?_)
    exact S_iret (pc := 33) ⟨rfl, rfl⟩ rfl rfl dX9_link_33
  · refine S_iconst (pc := 21) (v := (nI 0)) dX9_link_21 kI_0 ?_
    exact S_iret (pc := 22) ⟨rfl, rfl⟩ rfl rfl dX9_link_22
theorem sX9_link  (r0 : Nat) (v1 : Int32) (v2 : Int32) : Sm mX9_link rI 0 0 0 [some (.ref r0), some (.int v1), some (.int v2)] [] (fX9_link r0 v1 v2) := by
  unfold fX9_link
  refine S_aload_n (pc := 0) dX9_link_0 rfl ?_
  refine S_aload_n (pc := 1) dX9_link_1 rfl ?_
  refine S_iload_n (pc := 2) dX9_link_2 rfl ?_
  refine S_iload_n (pc := 3) dX9_link_3 rfl ?_
  refine Y_Vi (pc := 4) (st := [.ref r0]) (kc' := 0) (ks' := 0) (ktX9_isBoth r0 v1 v2) mw_X9_isBoth mv_X9_isBoth w1609 (RO.mk rfl rfl rfl rfl) rfl rfl rfl dX9_link_4 ⟨rfl, rfl⟩ (fun x_9 => ?_)
  refine S_ifeq (pc := 7) (tgt := 14) dX9_link_7 (by decide) ?_ ?_
  · refine S_iconst (pc := 14) (v := (nI 1)) dX9_link_14 kI_1 ?_
    exact (sX9_link_15 r0 v1 v2 r0 (nI 1))
  · refine S_iconst (pc := 10) (v := (nI 0)) dX9_link_10 kI_0 ?_
    refine S_goto (pc := 11) (tgt := 15) dX9_link_11 (by decide) ?_
    exact (sX9_link_15 r0 v1 v2 r0 (nI 0))
theorem ktX9_link (r0 : Nat) (v1 : Int32) (v2 : Int32) : Ct mX9_link rI [.ref r0, .int v1, .int v2] (fX9_link r0 v1 v2) := Ct.of (z := 0) pn_X9 rfl rfl rfl (sX9_link r0 v1 v2)
def mX9_mayBe : MI := (yX9_mayBe, cX9_mayBe, 5, (some .boolean), { frames := 4, cells := 0, slots := 0, locals := 91 }, [])
theorem mw_X9_mayBe : MW mX9_mayBe 4 := ⟨w1458, w11, ⟨by decide, by decide⟩, by decide +kernel⟩
theorem mv_X9_mayBe : MV mX9_mayBe 9 := ⟨_, rfl, w1457, wp79⟩
def fX9_mayBe  (r0 : Nat) (v1 : Int32) (v2 : Int32) (v3 : Int32) (v4 : Int32) : AH → Option (Int32 × AH) := fun h =>
  if v3 = (nI 0) then (
    bd (fX9_within v4 (nI 0) (nI 1) h) fun x_8 h =>
    rz x_8 x_8 h)
  else
  if v3 = (nI 1) then (
    bd (fX9_within v4 (nI 0) (nI 1) h) fun x_9 h =>
    rz x_9 x_9 h)
  else
  if v3 = (nI 2) then (
    bd (fX9_within v4 (nI 0) (nI 1) h) fun x_10 h =>
    rz x_10 x_10 h)
  else
  if v3 = (nI 3) then (
    bd (fX9_within v4 (nI 0) (nI 3) h) fun x_11 h =>
    rz x_11 x_11 h)
  else
  if v3 = (nI 4) then (
    cv 9 r0 (fX9_isInterface r0 v1 v2) h fun x_12 h =>
    if x_12 = 0 then (
      cv 9 r0 (fX9_mayBeAbove r0 v1 v2 v4) h fun x_13 h =>
      if x_13 = 0 then (
        rz (nI 0) (nI 0) h)
      else
      rz (nI 1) (nI 1) h)
    else
    rz (nI 1) (nI 1) h)
  else
  if v3 = (nI 5) then (
    cv 9 r0 (fX9_areInterfaces r0 v1 v2 v4) h fun x_14 h =>
    if x_14 = 0 then (
      rz (nI 0) (nI 0) h)
    else
    rz (nI 1) (nI 1) h)
  else
  rz (nI 0) (nI 0) h
theorem sX9_mayBe  (r0 : Nat) (v1 : Int32) (v2 : Int32) (v3 : Int32) (v4 : Int32) : Sm mX9_mayBe rI 0 0 0 [some (.ref r0), some (.int v1), some (.int v2), some (.int v3), some (.int v4)] [] (fX9_mayBe r0 v1 v2 v3 v4) := by
  unfold fX9_mayBe
  refine S_iload_n (pc := 0) dX9_mayBe_0 rfl ?_
  refine S_case (x := v3) (v := (nI 0)) (fun n0 => ?_) (fun n0 => ?_)
  · refine S_tsI (pc := 1) (tgt := 36) n0 dX9_mayBe_1 (by decide) rfl (by decide) ?_
    refine S_iload (pc := 36) dX9_mayBe_36 rfl ?_
    refine S_iconst (pc := 38) (v := (nI 0)) dX9_mayBe_38 kI_0 ?_
    refine S_iconst (pc := 39) (v := (nI 1)) dX9_mayBe_39 kI_1 ?_
    refine Y_Ti (pc := 40) (st := []) (kc' := 0) (ks' := 0) (ktX9_within v4 (nI 0) (nI 1)) mw_X9_within w1217 w1216 (RO.mk rfl rfl rfl rfl) rfl rfl rfl dX9_mayBe_40 ⟨rfl, rfl⟩ (fun x_8 => ?_)
    exact S_zret (pc := 43) ⟨rfl, rfl⟩ rfl rfl dX9_mayBe_43
  refine S_case (x := v3) (v := (nI 1)) (fun n1 => ?_) (fun n1 => ?_)
  · refine S_tsI (pc := 1) (tgt := 36) n1 dX9_mayBe_1 (by decide) rfl (by decide) ?_
    refine S_iload (pc := 36) dX9_mayBe_36 rfl ?_
    refine S_iconst (pc := 38) (v := (nI 0)) dX9_mayBe_38 kI_0 ?_
    refine S_iconst (pc := 39) (v := (nI 1)) dX9_mayBe_39 kI_1 ?_
    refine Y_Ti (pc := 40) (st := []) (kc' := 0) (ks' := 0) (ktX9_within v4 (nI 0) (nI 1)) mw_X9_within w1217 w1216 (RO.mk rfl rfl rfl rfl) rfl rfl rfl dX9_mayBe_40 ⟨rfl, rfl⟩ (fun x_9 => ?_)
    exact S_zret (pc := 43) ⟨rfl, rfl⟩ rfl rfl dX9_mayBe_43
  refine S_case (x := v3) (v := (nI 2)) (fun n2 => ?_) (fun n2 => ?_)
  · refine S_tsI (pc := 1) (tgt := 36) n2 dX9_mayBe_1 (by decide) rfl (by decide) ?_
    refine S_iload (pc := 36) dX9_mayBe_36 rfl ?_
    refine S_iconst (pc := 38) (v := (nI 0)) dX9_mayBe_38 kI_0 ?_
    refine S_iconst (pc := 39) (v := (nI 1)) dX9_mayBe_39 kI_1 ?_
    refine Y_Ti (pc := 40) (st := []) (kc' := 0) (ks' := 0) (ktX9_within v4 (nI 0) (nI 1)) mw_X9_within w1217 w1216 (RO.mk rfl rfl rfl rfl) rfl rfl rfl dX9_mayBe_40 ⟨rfl, rfl⟩ (fun x_10 => ?_)
    exact S_zret (pc := 43) ⟨rfl, rfl⟩ rfl rfl dX9_mayBe_43
  refine S_case (x := v3) (v := (nI 3)) (fun n3 => ?_) (fun n3 => ?_)
  · refine S_tsI (pc := 1) (tgt := 44) n3 dX9_mayBe_1 (by decide) rfl (by decide) ?_
    refine S_iload (pc := 44) dX9_mayBe_44 rfl ?_
    refine S_iconst (pc := 46) (v := (nI 0)) dX9_mayBe_46 kI_0 ?_
    refine S_iconst (pc := 47) (v := (nI 3)) dX9_mayBe_47 kI_3 ?_
    refine Y_Ti (pc := 48) (st := []) (kc' := 0) (ks' := 0) (ktX9_within v4 (nI 0) (nI 3)) mw_X9_within w1217 w1216 (RO.mk rfl rfl rfl rfl) rfl rfl rfl dX9_mayBe_48 ⟨rfl, rfl⟩ (fun x_11 => ?_)
    exact S_zret (pc := 51) ⟨rfl, rfl⟩ rfl rfl dX9_mayBe_51
  refine S_case (x := v3) (v := (nI 4)) (fun n4 => ?_) (fun n4 => ?_)
  · refine S_tsI (pc := 1) (tgt := 52) n4 dX9_mayBe_1 (by decide) rfl (by decide) ?_
    refine S_aload_n (pc := 52) dX9_mayBe_52 rfl ?_
    refine S_iload_n (pc := 53) dX9_mayBe_53 rfl ?_
    refine S_iload_n (pc := 54) dX9_mayBe_54 rfl ?_
    refine Y_Vi (pc := 55) (st := []) (kc' := 0) (ks' := 0) (ktX9_isInterface r0 v1 v2) mw_X9_isInterface mv_X9_isInterface w1282 (RO.mk rfl rfl rfl rfl) rfl rfl rfl dX9_mayBe_55 ⟨rfl, rfl⟩ (fun x_12 => ?_)
    refine S_ifne (pc := 58) (tgt := 72) dX9_mayBe_58 (by decide) ?_ ?_
    · refine S_iconst (pc := 72) (v := (nI 1)) dX9_mayBe_72 kI_1 ?_
      refine S_goto (pc := 73) (tgt := 77) dX9_mayBe_73 (by decide) ?_
      exact S_zret (pc := 77) ⟨rfl, rfl⟩ rfl rfl dX9_mayBe_77
    · refine S_aload_n (pc := 61) dX9_mayBe_61 rfl ?_
      refine S_iload_n (pc := 62) dX9_mayBe_62 rfl ?_
      refine S_iload_n (pc := 63) dX9_mayBe_63 rfl ?_
      refine S_iload (pc := 64) dX9_mayBe_64 rfl ?_
      refine Y_Vi (pc := 66) (st := []) (kc' := 0) (ks' := 0) (ktX9_mayBeAbove r0 v1 v2 v4) mw_X9_mayBeAbove mv_X9_mayBeAbove w1423 (RO.mk rfl rfl rfl rfl) rfl rfl rfl dX9_mayBe_66 ⟨rfl, rfl⟩ (fun x_13 => ?_)
      refine S_ifeq (pc := 69) (tgt := 76) dX9_mayBe_69 (by decide) ?_ ?_
      · refine S_iconst (pc := 76) (v := (nI 0)) dX9_mayBe_76 kI_0 ?_
        exact S_zret (pc := 77) ⟨rfl, rfl⟩ rfl rfl dX9_mayBe_77
      · refine S_iconst (pc := 72) (v := (nI 1)) dX9_mayBe_72 kI_1 ?_
        refine S_goto (pc := 73) (tgt := 77) dX9_mayBe_73 (by decide) ?_
        exact S_zret (pc := 77) ⟨rfl, rfl⟩ rfl rfl dX9_mayBe_77
  refine S_tsD (pc := 1) (tgt := 78) (by have n0 := lv_neT (a := 0) n0 rfl; have n1 := lv_neT (a := 1) n1 rfl; have n2 := lv_neT (a := 2) n2 rfl; have n3 := lv_neT (a := 3) n3 rfl; have n4 := lv_neT (a := 4) n4 rfl; omega) dX9_mayBe_1 (by decide) ?_
  refine S_iload_n (pc := 78) dX9_mayBe_78 rfl ?_
  refine S_iconst (pc := 79) (v := (nI 5)) dX9_mayBe_79 kI_5 ?_
  refine S_icmpne (pc := 80) (tgt := 98) dX9_mayBe_80 (by decide) ?_ ?_
  · refine S_iconst (pc := 98) (v := (nI 0)) dX9_mayBe_98 kI_0 ?_
    exact S_zret (pc := 99) ⟨rfl, rfl⟩ rfl rfl dX9_mayBe_99
  · refine S_aload_n (pc := 83) dX9_mayBe_83 rfl ?_
    refine S_iload_n (pc := 84) dX9_mayBe_84 rfl ?_
    refine S_iload_n (pc := 85) dX9_mayBe_85 rfl ?_
    refine S_iload (pc := 86) dX9_mayBe_86 rfl ?_
    refine Y_Vi (pc := 88) (st := []) (kc' := 0) (ks' := 0) (ktX9_areInterfaces r0 v1 v2 v4) mw_X9_areInterfaces mv_X9_areInterfaces w1427 (RO.mk rfl rfl rfl rfl) rfl rfl rfl dX9_mayBe_88 ⟨rfl, rfl⟩ (fun x_14 => ?_)
    refine S_ifeq (pc := 91) (tgt := 98) dX9_mayBe_91 (by decide) ?_ ?_
    · refine S_iconst (pc := 98) (v := (nI 0)) dX9_mayBe_98 kI_0 ?_
      exact S_zret (pc := 99) ⟨rfl, rfl⟩ rfl rfl dX9_mayBe_99
    · refine S_iconst (pc := 94) (v := (nI 1)) dX9_mayBe_94 kI_1 ?_
      refine S_goto (pc := 95) (tgt := 99) dX9_mayBe_95 (by decide) ?_
      exact S_zret (pc := 99) ⟨rfl, rfl⟩ rfl rfl dX9_mayBe_99
theorem ktX9_mayBe (r0 : Nat) (v1 : Int32) (v2 : Int32) (v3 : Int32) (v4 : Int32) : Ct mX9_mayBe rI [.ref r0, .int v1, .int v2, .int v3, .int v4] (fX9_mayBe r0 v1 v2 v3 v4) := Ct.of (z := 0) pn_X9 rfl rfl rfl (sX9_mayBe r0 v1 v2 v3 v4)
def mX9_maySet : MI := (yX9_maySet, cX9_maySet, 6, (some .boolean), { frames := 4, cells := 0, slots := 0, locals := 91 }, [])
theorem mw_X9_maySet : MW mX9_maySet 4 := ⟨w1525, w11, ⟨by decide, by decide⟩, by decide +kernel⟩
theorem mv_X9_maySet : MV mX9_maySet 9 := ⟨_, rfl, w1524, wp87⟩
def fX9_maySet_62  (r0 : Nat) (v1 : Int32) (v2 : Int32) (v4 : Int32) : AH → Option (Int32 × AH) := fun h =>
  if 0 < v4 then (
    rz (nI 1) (nI 1) h)
  else
  cv 9 r0 (fX9_isAbstract r0 v1 v2) h fun x_27 h =>
  if x_27 = 0 then (
    rz (nI 1) (nI 1) h)
  else
  rz (nI 0) (nI 0) h
def fX9_maySet  (r0 : Nat) (v1 : Int32) (v2 : Int32) (v3 : Int32) (v4 : Int32) : AH → Option (Int32 × AH) := fun h =>
  cv 9 r0 (fX9_its r0 v1 v2 (nI 1)) h fun x_28 h =>
  if v3 = (nI 0) then (
    bd (fX9_within v4 (nI 0) (nI 3) h) fun x_29 h =>
    if x_29 = 0 then (
      rz (nI 0) (nI 0) h)
    else
    cv 9 r0 (fX9_isInterface r0 v1 x_28) h fun x_30 h =>
    if x_30 = 0 then (
      fX9_maySet_62 r0 v1 v2 v4 h)
    else
    if v4 = (nI 3) then (
      fX9_maySet_62 r0 v1 v2 v4 h)
    else
    rz (nI 0) (nI 0) h)
  else
  if v3 = (nI 1) then (
    cv 9 r0 (fX9_isMethod r0 v1 v2) h fun x_31 h =>
    if x_31 = 0 then (
      cv 9 r0 (fX9_its r0 v1 v2 (nI 3)) h fun x_32 h =>
      cv 9 r0 (fX9_mayBeField r0 v1 x_28 x_32 v4) h fun x_33 h =>
      rz x_33 x_33 h)
    else
    cv 9 r0 (fX9_its r0 v1 v2 (nI 3)) h fun x_34 h =>
    cv 9 r0 (fX9_mayBeMethod r0 v1 x_28 x_34 v4) h fun x_35 h =>
    rz x_35 x_35 h)
  else
  if v3 = (nI 2) then (
    cv 9 r0 (fX9_isMethod r0 v1 v2) h fun x_36 h =>
    if x_36 = 0 then (
      if v4 = (-2 : Int32) then (
        rz (nI 1) (nI 1) h)
      else
      cv 9 r0 (fX9_its r0 v1 v2 (nI 4)) h fun x_37 h =>
      if x_37 = (nI 3) then (
        cv 9 r0 (fX9_its r0 v1 v2 (nI 5)) h fun x_38 h =>
        if x_38 = (-1 : Int32) then (
          bd (fX9_within v4 (-99 : Int32) (nI 99) h) fun x_39 h =>
          if x_39 = 0 then (
            rz (nI 0) (nI 0) h)
          else
          rz (nI 1) (nI 1) h)
        else
        rz (nI 0) (nI 0) h)
      else
      rz (nI 0) (nI 0) h)
    else
    rz (nI 0) (nI 0) h)
  else
  rz (nI 0) (nI 0) h
theorem sX9_maySet_62  (r0 : Nat) (v1 : Int32) (v2 : Int32) (v4 : Int32) : Sm mX9_maySet rI 0 0 62 [some (.ref r0), some (.int v1), some (.int v2), none, some (.int v4), none] [] (fX9_maySet_62 r0 v1 v2 v4) := by
  unfold fX9_maySet_62
  refine S_iload (pc := 62) dX9_maySet_62 rfl ?_
  refine S_ifgt (pc := 64) (tgt := 76) dX9_maySet_64 (by decide) ?_ ?_
  · refine S_iconst (pc := 76) (v := (nI 1)) dX9_maySet_76 kI_1 ?_
    refine S_goto (pc := 77) (tgt := 81) dX9_maySet_77 (by decide) ?_
    exact S_zret (pc := 81) ⟨rfl, rfl⟩ rfl rfl dX9_maySet_81
  · refine S_aload_n (pc := 67) dX9_maySet_67 rfl ?_
    refine S_iload_n (pc := 68) dX9_maySet_68 rfl ?_
    refine S_iload_n (pc := 69) dX9_maySet_69 rfl ?_
    refine Y_Vi (pc := 70) (st := []) (kc' := 0) (ks' := 0) (ktX9_isAbstract r0 v1 v2) mw_X9_isAbstract mv_X9_isAbstract w1294 (RO.mk rfl rfl rfl rfl) rfl rfl rfl dX9_maySet_70 ⟨rfl, rfl⟩ (fun x_27 => ?_)
    refine S_ifne (pc := 73) (tgt := 80) dX9_maySet_73 (by decide) ?_ ?_
    · refine S_iconst (pc := 80) (v := (nI 0)) dX9_maySet_80 kI_0 ?_
      exact S_zret (pc := 81) ⟨rfl, rfl⟩ rfl rfl dX9_maySet_81
    · refine S_iconst (pc := 76) (v := (nI 1)) dX9_maySet_76 kI_1 ?_
      refine S_goto (pc := 77) (tgt := 81) dX9_maySet_77 (by decide) ?_
      exact S_zret (pc := 81) ⟨rfl, rfl⟩ rfl rfl dX9_maySet_81
theorem sX9_maySet  (r0 : Nat) (v1 : Int32) (v2 : Int32) (v3 : Int32) (v4 : Int32) : Sm mX9_maySet rI 0 0 0 [some (.ref r0), some (.int v1), some (.int v2), some (.int v3), some (.int v4), none] [] (fX9_maySet r0 v1 v2 v3 v4) := by
  unfold fX9_maySet
  refine S_aload_n (pc := 0) dX9_maySet_0 rfl ?_
  refine S_iload_n (pc := 1) dX9_maySet_1 rfl ?_
  refine S_iload_n (pc := 2) dX9_maySet_2 rfl ?_
  refine S_iconst (pc := 3) (v := (nI 1)) dX9_maySet_3 kI_1 ?_
  refine Y_Vi (pc := 4) (st := []) (kc' := 0) (ks' := 0) (ktX9_its r0 v1 v2 (nI 1)) mw_X9_its mv_X9_its w1243 (RO.mk rfl rfl rfl rfl) rfl rfl rfl dX9_maySet_4 ⟨rfl, rfl⟩ (fun x_28 => ?_)
  refine Z_istore (pc := 7) (lv' := [some (.ref r0), some (.int v1), some (.int v2), some (.int v3), some (.int v4), some (.int x_28)]) dX9_maySet_7 rfl rfl rfl ?_
  refine S_iload_n (pc := 9) dX9_maySet_9 rfl ?_
  refine S_case (x := v3) (v := (nI 0)) (fun n0 => ?_) (fun n0 => ?_)
  · refine S_lsI (pc := 10) (tgt := 36) n0 dX9_maySet_10 (by decide) rfl (by decide) ?_
    refine S_iload (pc := 36) dX9_maySet_36 rfl ?_
    refine S_iconst (pc := 38) (v := (nI 0)) dX9_maySet_38 kI_0 ?_
    refine S_iconst (pc := 39) (v := (nI 3)) dX9_maySet_39 kI_3 ?_
    refine Y_Ti (pc := 40) (st := []) (kc' := 0) (ks' := 0) (ktX9_within v4 (nI 0) (nI 3)) mw_X9_within w1217 w1216 (RO.mk rfl rfl rfl rfl) rfl rfl rfl dX9_maySet_40 ⟨rfl, rfl⟩ (fun x_29 => ?_)
    refine S_ifeq (pc := 43) (tgt := 80) dX9_maySet_43 (by decide) ?_ ?_
    · refine S_iconst (pc := 80) (v := (nI 0)) dX9_maySet_80 kI_0 ?_
      exact S_zret (pc := 81) ⟨rfl, rfl⟩ rfl rfl dX9_maySet_81
    · refine S_aload_n (pc := 46) dX9_maySet_46 rfl ?_
      refine S_iload_n (pc := 47) dX9_maySet_47 rfl ?_
      refine S_iload (pc := 48) dX9_maySet_48 rfl ?_
      refine Y_Vi (pc := 50) (st := []) (kc' := 0) (ks' := 0) (ktX9_isInterface r0 v1 x_28) mw_X9_isInterface mv_X9_isInterface w1282 (RO.mk rfl rfl rfl rfl) rfl rfl rfl dX9_maySet_50 ⟨rfl, rfl⟩ (fun x_30 => ?_)
      refine S_ifeq (pc := 53) (tgt := 62) dX9_maySet_53 (by decide) ?_ ?_
      · exact (S_lv (lv0 := [some (.ref r0), some (.int v1), some (.int v2), none, some (.int v4), none]) (And.intro rfl (And.intro rfl (And.intro rfl (And.intro rfl trivial)))) (sX9_maySet_62 r0 v1 v2 v4))
      · refine S_iload (pc := 56) dX9_maySet_56 rfl ?_
        refine S_iconst (pc := 58) (v := (nI 3)) dX9_maySet_58 kI_3 ?_
        refine S_icmpne (pc := 59) (tgt := 80) dX9_maySet_59 (by decide) ?_ ?_
        · refine S_iconst (pc := 80) (v := (nI 0)) dX9_maySet_80 kI_0 ?_
          exact S_zret (pc := 81) ⟨rfl, rfl⟩ rfl rfl dX9_maySet_81
        · exact (S_lv (lv0 := [some (.ref r0), some (.int v1), some (.int v2), none, some (.int v4), none]) (And.intro rfl (And.intro rfl (And.intro rfl (And.intro rfl trivial)))) (sX9_maySet_62 r0 v1 v2 v4))
  refine S_case (x := v3) (v := (nI 1)) (fun n1 => ?_) (fun n1 => ?_)
  · refine S_lsI (pc := 10) (tgt := 82) n1 dX9_maySet_10 (by decide) rfl (by decide) ?_
    refine S_aload_n (pc := 82) dX9_maySet_82 rfl ?_
    refine S_iload_n (pc := 83) dX9_maySet_83 rfl ?_
    refine S_iload_n (pc := 84) dX9_maySet_84 rfl ?_
    refine Y_Vi (pc := 85) (st := []) (kc' := 0) (ks' := 0) (ktX9_isMethod r0 v1 v2) mw_X9_isMethod mv_X9_isMethod w1278 (RO.mk rfl rfl rfl rfl) rfl rfl rfl dX9_maySet_85 ⟨rfl, rfl⟩ (fun x_31 => ?_)
    refine S_ifeq (pc := 88) (tgt := 110) dX9_maySet_88 (by decide) ?_ ?_
    · refine S_aload_n (pc := 110) dX9_maySet_110 rfl ?_
      refine S_iload_n (pc := 111) dX9_maySet_111 rfl ?_
      refine S_iload (pc := 112) dX9_maySet_112 rfl ?_
      refine S_aload_n (pc := 114) dX9_maySet_114 rfl ?_
      refine S_iload_n (pc := 115) dX9_maySet_115 rfl ?_
      refine S_iload_n (pc := 116) dX9_maySet_116 rfl ?_
      refine S_iconst (pc := 117) (v := (nI 3)) dX9_maySet_117 kI_3 ?_
      refine Y_Vi (pc := 118) (st := [.int x_28, .int v1, .ref r0]) (kc' := 0) (ks' := 0) (ktX9_its r0 v1 v2 (nI 3)) mw_X9_its mv_X9_its w1243 (RO.mk rfl rfl rfl rfl) rfl rfl rfl dX9_maySet_118 ⟨rfl, rfl⟩ (fun x_32 => ?_)
      refine S_iload (pc := 121) dX9_maySet_121 rfl ?_
      refine Y_Vi (pc := 123) (st := []) (kc' := 0) (ks' := 0) (ktX9_mayBeField r0 v1 x_28 x_32 v4) mw_X9_mayBeField mv_X9_mayBeField w1502 (RO.mk rfl rfl rfl rfl) rfl rfl rfl dX9_maySet_123 ⟨rfl, rfl⟩ (fun x_33 => ?_)
      exact S_zret (pc := 126) ⟨rfl, rfl⟩ rfl rfl dX9_maySet_126
    · refine S_aload_n (pc := 91) dX9_maySet_91 rfl ?_
      refine S_iload_n (pc := 92) dX9_maySet_92 rfl ?_
      refine S_iload (pc := 93) dX9_maySet_93 rfl ?_
      refine S_aload_n (pc := 95) dX9_maySet_95 rfl ?_
      refine S_iload_n (pc := 96) dX9_maySet_96 rfl ?_
      refine S_iload_n (pc := 97) dX9_maySet_97 rfl ?_
      refine S_iconst (pc := 98) (v := (nI 3)) dX9_maySet_98 kI_3 ?_
      refine Y_Vi (pc := 99) (st := [.int x_28, .int v1, .ref r0]) (kc' := 0) (ks' := 0) (ktX9_its r0 v1 v2 (nI 3)) mw_X9_its mv_X9_its w1243 (RO.mk rfl rfl rfl rfl) rfl rfl rfl dX9_maySet_99 ⟨rfl, rfl⟩ (fun x_34 => ?_)
      refine S_iload (pc := 102) dX9_maySet_102 rfl ?_
      refine Y_Vi (pc := 104) (st := []) (kc' := 0) (ks' := 0) (ktX9_mayBeMethod r0 v1 x_28 x_34 v4) mw_X9_mayBeMethod mv_X9_mayBeMethod w1498 (RO.mk rfl rfl rfl rfl) rfl rfl rfl dX9_maySet_104 ⟨rfl, rfl⟩ (fun x_35 => ?_)
      refine S_goto (pc := 107) (tgt := 126) dX9_maySet_107 (by decide) ?_
      exact S_zret (pc := 126) ⟨rfl, rfl⟩ rfl rfl dX9_maySet_126
  refine S_lsD (pc := 10) (tgt := 127) (by show Op.lookupswitch.offset [(0, 26), (1, 72)] (117) _ = _; rw [lv_osw (a := 0) n0 rfl, lv_osw (a := 1) n1 rfl]; rfl) (by decide) dX9_maySet_10 (by decide) ?_
  refine S_iload_n (pc := 127) dX9_maySet_127 rfl ?_
  refine S_iconst (pc := 128) (v := (nI 2)) dX9_maySet_128 kI_2 ?_
  refine S_icmpne (pc := 129) (tgt := 186) dX9_maySet_129 (by decide) ?_ ?_
  · refine S_iconst (pc := 186) (v := (nI 0)) dX9_maySet_186 kI_0 ?_
    exact S_zret (pc := 187) ⟨rfl, rfl⟩ rfl rfl dX9_maySet_187
  · refine S_aload_n (pc := 132) dX9_maySet_132 rfl ?_
    refine S_iload_n (pc := 133) dX9_maySet_133 rfl ?_
    refine S_iload_n (pc := 134) dX9_maySet_134 rfl ?_
    refine Y_Vi (pc := 135) (st := []) (kc' := 0) (ks' := 0) (ktX9_isMethod r0 v1 v2) mw_X9_isMethod mv_X9_isMethod w1278 (RO.mk rfl rfl rfl rfl) rfl rfl rfl dX9_maySet_135 ⟨rfl, rfl⟩ (fun x_36 => ?_)
    refine S_ifne (pc := 138) (tgt := 186) dX9_maySet_138 (by decide) ?_ ?_
    · refine S_iconst (pc := 186) (v := (nI 0)) dX9_maySet_186 kI_0 ?_
      exact S_zret (pc := 187) ⟨rfl, rfl⟩ rfl rfl dX9_maySet_187
    · refine S_iload (pc := 141) dX9_maySet_141 rfl ?_
      refine S_bipush (pc := 143) (v := (-2 : Int32)) dX9_maySet_143 kB_m2 ?_
      refine S_icmpeq (pc := 145) (tgt := 182) dX9_maySet_145 (by decide) ?_ ?_
      · refine S_iconst (pc := 182) (v := (nI 1)) dX9_maySet_182 kI_1 ?_
        refine S_goto (pc := 183) (tgt := 187) dX9_maySet_183 (by decide) ?_
        exact S_zret (pc := 187) ⟨rfl, rfl⟩ rfl rfl dX9_maySet_187
      · refine S_aload_n (pc := 148) dX9_maySet_148 rfl ?_
        refine S_iload_n (pc := 149) dX9_maySet_149 rfl ?_
        refine S_iload_n (pc := 150) dX9_maySet_150 rfl ?_
        refine S_iconst (pc := 151) (v := (nI 4)) dX9_maySet_151 kI_4 ?_
        refine Y_Vi (pc := 152) (st := []) (kc' := 0) (ks' := 0) (ktX9_its r0 v1 v2 (nI 4)) mw_X9_its mv_X9_its w1243 (RO.mk rfl rfl rfl rfl) rfl rfl rfl dX9_maySet_152 ⟨rfl, rfl⟩ (fun x_37 => ?_)
        refine S_iconst (pc := 155) (v := (nI 3)) dX9_maySet_155 kI_3 ?_
        refine S_icmpne (pc := 156) (tgt := 186) dX9_maySet_156 (by decide) ?_ ?_
        · refine S_iconst (pc := 186) (v := (nI 0)) dX9_maySet_186 kI_0 ?_
          exact S_zret (pc := 187) ⟨rfl, rfl⟩ rfl rfl dX9_maySet_187
        · refine S_aload_n (pc := 159) dX9_maySet_159 rfl ?_
          refine S_iload_n (pc := 160) dX9_maySet_160 rfl ?_
          refine S_iload_n (pc := 161) dX9_maySet_161 rfl ?_
          refine S_iconst (pc := 162) (v := (nI 5)) dX9_maySet_162 kI_5 ?_
          refine Y_Vi (pc := 163) (st := []) (kc' := 0) (ks' := 0) (ktX9_its r0 v1 v2 (nI 5)) mw_X9_its mv_X9_its w1243 (RO.mk rfl rfl rfl rfl) rfl rfl rfl dX9_maySet_163 ⟨rfl, rfl⟩ (fun x_38 => ?_)
          refine S_iconst (pc := 166) (v := (-1 : Int32)) dX9_maySet_166 kI_m1 ?_
          refine S_icmpne (pc := 167) (tgt := 186) dX9_maySet_167 (by decide) ?_ ?_
          · refine S_iconst (pc := 186) (v := (nI 0)) dX9_maySet_186 kI_0 ?_
            exact S_zret (pc := 187) ⟨rfl, rfl⟩ rfl rfl dX9_maySet_187
          · refine S_iload (pc := 170) dX9_maySet_170 rfl ?_
            refine S_bipush (pc := 172) (v := (-99 : Int32)) dX9_maySet_172 kB_m99 ?_
            refine S_bipush (pc := 174) (v := (nI 99)) dX9_maySet_174 kB_99 ?_
            refine Y_Ti (pc := 176) (st := []) (kc' := 0) (ks' := 0) (ktX9_within v4 (-99 : Int32) (nI 99)) mw_X9_within w1217 w1216 (RO.mk rfl rfl rfl rfl) rfl rfl rfl dX9_maySet_176 ⟨rfl, rfl⟩ (fun x_39 => ?_)
            refine S_ifeq (pc := 179) (tgt := 186) dX9_maySet_179 (by decide) ?_ ?_
            · refine S_iconst (pc := 186) (v := (nI 0)) dX9_maySet_186 kI_0 ?_
              exact S_zret (pc := 187) ⟨rfl, rfl⟩ rfl rfl dX9_maySet_187
            · refine S_iconst (pc := 182) (v := (nI 1)) dX9_maySet_182 kI_1 ?_
              refine S_goto (pc := 183) (tgt := 187) dX9_maySet_183 (by decide) ?_
              exact S_zret (pc := 187) ⟨rfl, rfl⟩ rfl rfl dX9_maySet_187
theorem ktX9_maySet (r0 : Nat) (v1 : Int32) (v2 : Int32) (v3 : Int32) (v4 : Int32) : Ct mX9_maySet rI [.ref r0, .int v1, .int v2, .int v3, .int v4] (fX9_maySet r0 v1 v2 v3 v4) := Ct.of (z := 1) pn_X9 rfl rfl rfl (sX9_maySet r0 v1 v2 v3 v4)
def mX9_memberInfo : MI := (yX9_memberInfo, cX9_memberInfo, 4, (some .int), { frames := 4, cells := 0, slots := 0, locals := 90 }, [])
theorem mw_X9_memberInfo : MW mX9_memberInfo 3 := ⟨w1537, w11, ⟨by decide, by decide⟩, by decide +kernel⟩
theorem mv_X9_memberInfo : MV mX9_memberInfo 9 := ⟨_, rfl, w1535, w1536⟩
def fX9_memberInfo_29  (r0 : Nat) (v1 : Int32) (v2 : Int32) (v3 : Int32) (s0 : Nat) (s1 : Int32) : AH → Option (Int32 × AH) := fun h =>
  cv 9 s0 (fX9_refused s0 s1) h fun x_9 h =>
  if x_9 = 0 then (
    cv 9 r0 (fX9_toldOf r0 v1 v2 v3) h fun x_10 h =>
    some (x_10, h))
  else
  some ((nI 0), h)
def fX9_memberInfo  (r0 : Nat) (v1 : Int32) (v2 : Int32) (v3 : Int32) : AH → Option (Int32 × AH) := fun h =>
  cv 9 r0 (fX9_isMember r0 v1 v2) h fun x_11 h =>
  if x_11 = 0 then (
    fX9_memberInfo_29 r0 v1 v2 v3 r0 (nI 1) h)
  else
  bd (fX9_within v3 (nI 0) (nI 9) h) fun x_12 h =>
  if x_12 = 0 then (
    fX9_memberInfo_29 r0 v1 v2 v3 r0 (nI 2) h)
  else
  fX9_memberInfo_29 r0 v1 v2 v3 r0 (nI 0) h
theorem sX9_memberInfo_29  (r0 : Nat) (v1 : Int32) (v2 : Int32) (v3 : Int32) (s0 : Nat) (s1 : Int32) : Sm mX9_memberInfo rI 0 0 29 [some (.ref r0), some (.int v1), some (.int v2), some (.int v3)] [.int s1, .ref s0] (fX9_memberInfo_29 r0 v1 v2 v3 s0 s1) := by
  unfold fX9_memberInfo_29
  refine Y_Vi (pc := 29) (st := []) (kc' := 0) (ks' := 0) (ktX9_refused s0 s1) mw_X9_refused mv_X9_refused w1415 (RO.mk rfl rfl rfl rfl) rfl rfl rfl dX9_memberInfo_29 ⟨rfl, rfl⟩ (fun x_9 => ?_)
  refine S_ifeq (pc := 32) (tgt := 37) dX9_memberInfo_32 (by decide) ?_ ?_
  · refine S_aload_n (pc := 37) dX9_memberInfo_37 rfl ?_
    refine S_iload_n (pc := 38) dX9_memberInfo_38 rfl ?_
    refine S_iload_n (pc := 39) dX9_memberInfo_39 rfl ?_
    refine S_iload_n (pc := 40) dX9_memberInfo_40 rfl ?_
    refine Y_Vi (pc := 41) (st := []) (kc' := 0) (ks' := 0) (ktX9_toldOf r0 v1 v2 v3) mw_X9_toldOf mv_X9_toldOf w1538 (RO.mk rfl rfl rfl rfl) rfl rfl rfl dX9_memberInfo_41 ⟨rfl, rfl⟩ (fun x_10 => ?_)
    exact S_iret (pc := 44) ⟨rfl, rfl⟩ rfl rfl dX9_memberInfo_44
  · refine S_iconst (pc := 35) (v := (nI 0)) dX9_memberInfo_35 kI_0 ?_
    exact S_iret (pc := 36) ⟨rfl, rfl⟩ rfl rfl dX9_memberInfo_36
theorem sX9_memberInfo  (r0 : Nat) (v1 : Int32) (v2 : Int32) (v3 : Int32) : Sm mX9_memberInfo rI 0 0 0 [some (.ref r0), some (.int v1), some (.int v2), some (.int v3)] [] (fX9_memberInfo r0 v1 v2 v3) := by
  unfold fX9_memberInfo
  refine S_aload_n (pc := 0) dX9_memberInfo_0 rfl ?_
  refine S_aload_n (pc := 1) dX9_memberInfo_1 rfl ?_
  refine S_iload_n (pc := 2) dX9_memberInfo_2 rfl ?_
  refine S_iload_n (pc := 3) dX9_memberInfo_3 rfl ?_
  refine Y_Vi (pc := 4) (st := [.ref r0]) (kc' := 0) (ks' := 0) (ktX9_isMember r0 v1 v2) mw_X9_isMember mv_X9_isMember w1514 (RO.mk rfl rfl rfl rfl) rfl rfl rfl dX9_memberInfo_4 ⟨rfl, rfl⟩ (fun x_11 => ?_)
  refine S_ifne (pc := 7) (tgt := 14) dX9_memberInfo_7 (by decide) ?_ ?_
  · refine S_iload_n (pc := 14) dX9_memberInfo_14 rfl ?_
    refine S_iconst (pc := 15) (v := (nI 0)) dX9_memberInfo_15 kI_0 ?_
    refine S_bipush (pc := 16) (v := (nI 9)) dX9_memberInfo_16 kB_9 ?_
    refine Y_Ti (pc := 18) (st := [.ref r0]) (kc' := 0) (ks' := 0) (ktX9_within v3 (nI 0) (nI 9)) mw_X9_within w1217 w1216 (RO.mk rfl rfl rfl rfl) rfl rfl rfl dX9_memberInfo_18 ⟨rfl, rfl⟩ (fun x_12 => ?_)
    refine S_ifne (pc := 21) (tgt := 28) dX9_memberInfo_21 (by decide) ?_ ?_
    · refine S_iconst (pc := 28) (v := (nI 0)) dX9_memberInfo_28 kI_0 ?_
      exact (sX9_memberInfo_29 r0 v1 v2 v3 r0 (nI 0))
    · refine S_iconst (pc := 24) (v := (nI 2)) dX9_memberInfo_24 kI_2 ?_
      refine S_goto (pc := 25) (tgt := 29) dX9_memberInfo_25 (by decide) ?_
      exact (sX9_memberInfo_29 r0 v1 v2 v3 r0 (nI 2))
  · refine S_iconst (pc := 10) (v := (nI 1)) dX9_memberInfo_10 kI_1 ?_
    refine S_goto (pc := 11) (tgt := 29) dX9_memberInfo_11 (by decide) ?_
    exact (sX9_memberInfo_29 r0 v1 v2 v3 r0 (nI 1))
theorem ktX9_memberInfo (r0 : Nat) (v1 : Int32) (v2 : Int32) (v3 : Int32) : Ct mX9_memberInfo rI [.ref r0, .int v1, .int v2, .int v3] (fX9_memberInfo r0 v1 v2 v3) := Ct.of (z := 0) pn_X9 rfl rfl rfl (sX9_memberInfo r0 v1 v2 v3)
def mX9_members : MI := (yX9_members, cX9_members, 2, (some .int), { frames := 2, cells := 0, slots := 0, locals := 42 }, [])
theorem mw_X9_members : MW mX9_members 1 := ⟨w1533, w11, ⟨by decide, by decide⟩, by decide +kernel⟩
theorem mv_X9_members : MV mX9_members 9 := ⟨_, rfl, w1531, w1532⟩
def fX9_members_13  (r0 : Nat) (v1 : Int32) (s0 : Nat) (s1 : Int32) : AH → Option (Int32 × AH) := fun h =>
  cv 9 s0 (fX9_refused s0 s1) h fun x_7 h =>
  if x_7 = 0 then (
    cv 9 r0 (fX9_memberMany r0 v1) h fun x_8 h =>
    some (x_8, h))
  else
  some ((nI 0), h)
def fX9_members  (r0 : Nat) (v1 : Int32) : AH → Option (Int32 × AH) := fun h =>
  bd (fX9_isVersion v1 h) fun x_9 h =>
  if x_9 = 0 then (
    fX9_members_13 r0 v1 r0 (nI 1) h)
  else
  fX9_members_13 r0 v1 r0 (nI 0) h
theorem sX9_members_13  (r0 : Nat) (v1 : Int32) (s0 : Nat) (s1 : Int32) : Sm mX9_members rI 0 0 13 [some (.ref r0), some (.int v1)] [.int s1, .ref s0] (fX9_members_13 r0 v1 s0 s1) := by
  unfold fX9_members_13
  refine Y_Vi (pc := 13) (st := []) (kc' := 0) (ks' := 0) (ktX9_refused s0 s1) mw_X9_refused mv_X9_refused w1415 (RO.mk rfl rfl rfl rfl) rfl rfl rfl dX9_members_13 ⟨rfl, rfl⟩ (fun x_7 => ?_)
  refine S_ifeq (pc := 16) (tgt := 23) dX9_members_16 (by decide) ?_ ?_
  · refine S_aload_n (pc := 23) dX9_members_23 rfl ?_
    refine S_iload_n (pc := 24) dX9_members_24 rfl ?_
    refine Y_Vi (pc := 25) (st := []) (kc' := 0) (ks' := 0) (ktX9_memberMany r0 v1) mw_X9_memberMany mv_X9_memberMany w1186 (RO.mk rfl rfl rfl rfl) rfl rfl rfl dX9_members_25 ⟨rfl, rfl⟩ (fun x_8 => ?_)
    exact S_iret (pc := 28) ⟨rfl, rfl⟩ rfl rfl dX9_members_28
  · refine S_iconst (pc := 19) (v := (nI 0)) dX9_members_19 kI_0 ?_
    refine S_goto (pc := 20) (tgt := 28) dX9_members_20 (by decide) ?_
    exact S_iret (pc := 28) ⟨rfl, rfl⟩ rfl rfl dX9_members_28
theorem sX9_members  (r0 : Nat) (v1 : Int32) : Sm mX9_members rI 0 0 0 [some (.ref r0), some (.int v1)] [] (fX9_members r0 v1) := by
  unfold fX9_members
  refine S_aload_n (pc := 0) dX9_members_0 rfl ?_
  refine S_iload_n (pc := 1) dX9_members_1 rfl ?_
  refine Y_Ti (pc := 2) (st := [.ref r0]) (kc' := 0) (ks' := 0) (ktX9_isVersion v1) mw_X9_isVersion w1214 w1213 (RO.mk rfl rfl rfl rfl) rfl rfl rfl dX9_members_2 ⟨rfl, rfl⟩ (fun x_9 => ?_)
  refine S_ifeq (pc := 5) (tgt := 12) dX9_members_5 (by decide) ?_ ?_
  · refine S_iconst (pc := 12) (v := (nI 1)) dX9_members_12 kI_1 ?_
    exact (sX9_members_13 r0 v1 r0 (nI 1))
  · refine S_iconst (pc := 8) (v := (nI 0)) dX9_members_8 kI_0 ?_
    refine S_goto (pc := 9) (tgt := 13) dX9_members_9 (by decide) ?_
    exact (sX9_members_13 r0 v1 r0 (nI 0))
theorem ktX9_members (r0 : Nat) (v1 : Int32) : Ct mX9_members rI [.ref r0, .int v1] (fX9_members r0 v1) := Ct.of (z := 0) pn_X9 rfl rfl rfl (sX9_members r0 v1)
def mX9_method : MI := (yX9_method, cX9_method, 4, (some .int), { frames := 8, cells := 0, slots := 0, locals := 194 }, [])
theorem mw_X9_method : MW mX9_method 3 := ⟨w1556, w11, ⟨by decide, by decide⟩, by decide +kernel⟩
theorem mv_X9_method : MV mX9_method 9 := ⟨_, rfl, w1554, w1555⟩
def fX9_method_29  (r0 : Nat) (v1 : Int32) (v2 : Int32) (v3 : Int32) (s0 : Nat) (s1 : Int32) : AH → Option (Int32 × AH) := fun h =>
  cv 9 s0 (fX9_refused s0 s1) h fun x_25 h =>
  if x_25 = 0 then (
    (gP 9 r0 4 h).bind fun a_26 =>
    (ldI a_26 (nI 0) h).bind fun x_27 =>
    (gP 9 r0 4 h).bind fun a_28 =>
    (ldI a_28 (nI 1) h).bind fun x_29 =>
    (gP 9 r0 4 h).bind fun a_30 =>
    (ldI a_30 (nI 2) h).bind fun x_31 =>
    (gP 9 r0 4 h).bind fun a_32 =>
    (ldI a_32 (nI 3) h).bind fun x_33 =>
    cv 9 r0 (fX9_wants r0 v3 x_27 x_29 x_31 x_33) h fun _ h =>
    cv 9 r0 (fX9_methodOf r0 v1 v2) h fun x_34 h =>
    some (x_34, h))
  else
  some ((nI 0), h)
def fX9_method  (r0 : Nat) (v1 : Int32) (v2 : Int32) (v3 : Int32) : AH → Option (Int32 × AH) := fun h =>
  cv 9 r0 (fX9_isClass r0 v1 v2) h fun x_35 h =>
  if x_35 = 0 then (
    fX9_method_29 r0 v1 v2 v3 r0 (nI 1) h)
  else
  bd (fX9_within v3 (nI 0) (nI 7) h) fun x_36 h =>
  if x_36 = 0 then (
    fX9_method_29 r0 v1 v2 v3 r0 (nI 2) h)
  else
  fX9_method_29 r0 v1 v2 v3 r0 (nI 0) h
theorem sX9_method_29  (r0 : Nat) (v1 : Int32) (v2 : Int32) (v3 : Int32) (s0 : Nat) (s1 : Int32) : Sm mX9_method rI 0 0 29 [some (.ref r0), some (.int v1), some (.int v2), some (.int v3)] [.int s1, .ref s0] (fX9_method_29 r0 v1 v2 v3 s0 s1) := by
  unfold fX9_method_29
  refine Y_Vi (pc := 29) (st := []) (kc' := 0) (ks' := 0) (ktX9_refused s0 s1) mw_X9_refused mv_X9_refused w1415 (RO.mk rfl rfl rfl rfl) rfl rfl rfl dX9_method_29 ⟨rfl, rfl⟩ (fun x_25 => ?_)
  refine S_ifeq (pc := 32) (tgt := 37) dX9_method_32 (by decide) ?_ ?_
  · refine S_aload_n (pc := 37) dX9_method_37 rfl ?_
    refine S_iload_n (pc := 38) dX9_method_38 rfl ?_
    refine S_aload_n (pc := 39) dX9_method_39 rfl ?_
    refine S_gP (pc := 40) fl_X9_16 rfl dX9_method_40 (fun a_26 => ?_)
    refine S_iconst (pc := 43) (v := (nI 0)) dX9_method_43 kI_0 ?_
    refine S_ldI (pc := 44) dX9_method_44 (fun x_27 => ?_)
    refine S_aload_n (pc := 45) dX9_method_45 rfl ?_
    refine S_gP (pc := 46) fl_X9_16 rfl dX9_method_46 (fun a_28 => ?_)
    refine S_iconst (pc := 49) (v := (nI 1)) dX9_method_49 kI_1 ?_
    refine S_ldI (pc := 50) dX9_method_50 (fun x_29 => ?_)
    refine S_aload_n (pc := 51) dX9_method_51 rfl ?_
    refine S_gP (pc := 52) fl_X9_16 rfl dX9_method_52 (fun a_30 => ?_)
    refine S_iconst (pc := 55) (v := (nI 2)) dX9_method_55 kI_2 ?_
    refine S_ldI (pc := 56) dX9_method_56 (fun x_31 => ?_)
    refine S_aload_n (pc := 57) dX9_method_57 rfl ?_
    refine S_gP (pc := 58) fl_X9_16 rfl dX9_method_58 (fun a_32 => ?_)
    refine S_iconst (pc := 61) (v := (nI 3)) dX9_method_61 kI_3 ?_
    refine S_ldI (pc := 62) dX9_method_62 (fun x_33 => ?_)
    refine Y_Vv (pc := 63) (st := []) (kc' := 0) (ks' := 0) (ktX9_wants r0 v3 x_27 x_29 x_31 x_33) mw_X9_wants mv_X9_wants w1306 (RO.mk rfl rfl rfl rfl) rfl rfl rfl dX9_method_63 ⟨rfl, rfl⟩ ?_
    refine S_aload_n (pc := 66) dX9_method_66 rfl ?_
    refine S_iload_n (pc := 67) dX9_method_67 rfl ?_
    refine S_iload_n (pc := 68) dX9_method_68 rfl ?_
    refine Y_Vi (pc := 69) (st := []) (kc' := 0) (ks' := 0) (ktX9_methodOf r0 v1 v2) mw_X9_methodOf mv_X9_methodOf w1557 (RO.mk rfl rfl rfl rfl) rfl rfl rfl dX9_method_69 ⟨rfl, rfl⟩ (fun x_34 => ?_)
    exact S_iret (pc := 72) ⟨rfl, rfl⟩ rfl rfl dX9_method_72
  · refine S_iconst (pc := 35) (v := (nI 0)) dX9_method_35 kI_0 ?_
    exact S_iret (pc := 36) ⟨rfl, rfl⟩ rfl rfl dX9_method_36
theorem sX9_method  (r0 : Nat) (v1 : Int32) (v2 : Int32) (v3 : Int32) : Sm mX9_method rI 0 0 0 [some (.ref r0), some (.int v1), some (.int v2), some (.int v3)] [] (fX9_method r0 v1 v2 v3) := by
  unfold fX9_method
  refine S_aload_n (pc := 0) dX9_method_0 rfl ?_
  refine S_aload_n (pc := 1) dX9_method_1 rfl ?_
  refine S_iload_n (pc := 2) dX9_method_2 rfl ?_
  refine S_iload_n (pc := 3) dX9_method_3 rfl ?_
  refine Y_Vi (pc := 4) (st := [.ref r0]) (kc' := 0) (ks' := 0) (ktX9_isClass r0 v1 v2) mw_X9_isClass mv_X9_isClass w1209 (RO.mk rfl rfl rfl rfl) rfl rfl rfl dX9_method_4 ⟨rfl, rfl⟩ (fun x_35 => ?_)
  refine S_ifne (pc := 7) (tgt := 14) dX9_method_7 (by decide) ?_ ?_
  · refine S_iload_n (pc := 14) dX9_method_14 rfl ?_
    refine S_iconst (pc := 15) (v := (nI 0)) dX9_method_15 kI_0 ?_
    refine S_bipush (pc := 16) (v := (nI 7)) dX9_method_16 kB_7 ?_
    refine Y_Ti (pc := 18) (st := [.ref r0]) (kc' := 0) (ks' := 0) (ktX9_within v3 (nI 0) (nI 7)) mw_X9_within w1217 w1216 (RO.mk rfl rfl rfl rfl) rfl rfl rfl dX9_method_18 ⟨rfl, rfl⟩ (fun x_36 => ?_)
    refine S_ifne (pc := 21) (tgt := 28) dX9_method_21 (by decide) ?_ ?_
    · refine S_iconst (pc := 28) (v := (nI 0)) dX9_method_28 kI_0 ?_
      exact (sX9_method_29 r0 v1 v2 v3 r0 (nI 0))
    · refine S_iconst (pc := 24) (v := (nI 2)) dX9_method_24 kI_2 ?_
      refine S_goto (pc := 25) (tgt := 29) dX9_method_25 (by decide) ?_
      exact (sX9_method_29 r0 v1 v2 v3 r0 (nI 2))
  · refine S_iconst (pc := 10) (v := (nI 1)) dX9_method_10 kI_1 ?_
    refine S_goto (pc := 11) (tgt := 29) dX9_method_11 (by decide) ?_
    exact (sX9_method_29 r0 v1 v2 v3 r0 (nI 1))
theorem ktX9_method (r0 : Nat) (v1 : Int32) (v2 : Int32) (v3 : Int32) : Ct mX9_method rI [.ref r0, .int v1, .int v2, .int v3] (fX9_method r0 v1 v2 v3) := Ct.of (z := 0) pn_X9 rfl rfl rfl (sX9_method r0 v1 v2 v3)
def mX9_moveMember : MI := (yX9_moveMember, cX9_moveMember, 8, (some .int), { frames := 4, cells := 0, slots := 0, locals := 98 }, [])
theorem mw_X9_moveMember : MW mX9_moveMember 3 := ⟨w1529, w11, ⟨by decide, by decide⟩, by decide +kernel⟩
theorem mv_X9_moveMember : MV mX9_moveMember 9 := ⟨_, rfl, w1527, w1528⟩
def fX9_moveMember_216  (r0 : Nat) (v1 : Int32) (v2 : Int32) (v3 : Int32) (s0 : Nat) (s1 : Int32) : AH → Option (Int32 × AH) := fun h =>
  cv 9 s0 (fX9_refused s0 s1) h fun x_39 h =>
  if x_39 = 0 then (
    cv 9 r0 (fX9_its r0 v1 v2 (nI 1)) h fun x_40 h =>
    cv 9 r0 (fX9_saves r0) h fun _ h =>
    (gP 9 r0 0 h).bind fun a_41 =>
    bd (fX9_member v1 v2 h) fun x_42 h =>
    (stI a_41 (x_42 + (nI 1)) v3 h).bind fun h =>
    some (x_40, h))
  else
  some ((nI 0), h)
def fX9_moveMember_185  (r0 : Nat) (v1 : Int32) (v2 : Int32) (v3 : Int32) (v4 : Int32) (v5 : Int32) (s0 : Int32) : AH → Option (Int32 × AH) := fun h =>
  if v4 = 0 then (
    fX9_moveMember_216 r0 v1 v2 v3 r0 (nI 1) h)
  else
  if v5 = 0 then (
    fX9_moveMember_216 r0 v1 v2 v3 r0 (nI 2) h)
  else
  if s0 = 0 then (
    fX9_moveMember_216 r0 v1 v2 v3 r0 (nI 3) h)
  else
  fX9_moveMember_216 r0 v1 v2 v3 r0 (nI 0) h
def fX9_moveMember_184  (r0 : Nat) (v1 : Int32) (v2 : Int32) (v3 : Int32) (v4 : Int32) (v5 : Int32) : AH → Option (Int32 × AH) := fun h =>
  fX9_moveMember_185 r0 v1 v2 v3 v4 v5 (nI 0) h
def fX9_moveMember_120  (r0 : Nat) (v1 : Int32) (v2 : Int32) (v3 : Int32) (v4 : Int32) (s0 : Int32) : AH → Option (Int32 × AH) := fun h =>
  if s0 = 0 then (
    fX9_moveMember_184 r0 v1 v2 v3 v4 s0 h)
  else
  if v3 = 0 then (
    fX9_moveMember_184 r0 v1 v2 v3 v4 s0 h)
  else
  cv 9 r0 (fX9_its r0 v1 v2 (nI 0)) h fun x_43 h =>
  cv 9 r0 (fX9_its r0 v1 v2 (nI 2)) h fun x_44 h =>
  cv 9 r0 (fX9_its r0 v1 v2 (nI 6)) h fun x_45 h =>
  cv 9 r0 (fX9_its r0 v1 v2 (nI 7)) h fun x_46 h =>
  cv 9 r0 (fX9_its r0 v1 v2 (nI 8)) h fun x_47 h =>
  cv 9 r0 (fX9_found r0 v1 v3 x_43 x_44 x_45 x_46 x_47) h fun x_48 h =>
  if x_48 = (-2 : Int32) then (
    fX9_moveMember_185 r0 v1 v2 v3 v4 s0 (nI 1) h)
  else
  fX9_moveMember_184 r0 v1 v2 v3 v4 s0 h
def fX9_moveMember_119  (r0 : Nat) (v1 : Int32) (v2 : Int32) (v3 : Int32) (v4 : Int32) : AH → Option (Int32 × AH) := fun h =>
  fX9_moveMember_120 r0 v1 v2 v3 v4 (nI 0) h
def fX9_moveMember_56  (r0 : Nat) (v1 : Int32) (v2 : Int32) (v3 : Int32) (v4 : Int32) (s0 : Int32) : AH → Option (Int32 × AH) := fun h =>
  if s0 = 0 then (
    fX9_moveMember_119 r0 v1 v2 v3 v4 h)
  else
  cv 9 r0 (fX9_isInterface r0 v1 v3) h fun x_49 h =>
  if x_49 = 0 then (
    fX9_moveMember_120 r0 v1 v2 v3 v4 (nI 1) h)
  else
  cv 9 r0 (fX9_its r0 v1 v2 (nI 3)) h fun x_50 h =>
  if x_50 = (nI 3) then (
    cv 9 r0 (fX9_isMethod r0 v1 v2) h fun x_51 h =>
    if x_51 = 0 then (
      cv 9 r0 (fX9_its r0 v1 v2 (nI 4)) h fun x_52 h =>
      if x_52 = (nI 3) then (
        fX9_moveMember_120 r0 v1 v2 v3 v4 (nI 1) h)
      else
      fX9_moveMember_119 r0 v1 v2 v3 v4 h)
    else
    cv 9 r0 (fX9_isFinal r0 v1 v2) h fun x_53 h =>
    if x_53 = 0 then (
      fX9_moveMember_120 r0 v1 v2 v3 v4 (nI 1) h)
    else
    fX9_moveMember_119 r0 v1 v2 v3 v4 h)
  else
  fX9_moveMember_119 r0 v1 v2 v3 v4 h
def fX9_moveMember_55  (r0 : Nat) (v1 : Int32) (v2 : Int32) (v3 : Int32) (v4 : Int32) : AH → Option (Int32 × AH) := fun h =>
  fX9_moveMember_56 r0 v1 v2 v3 v4 (nI 0) h
def fX9_moveMember_23  (r0 : Nat) (v1 : Int32) (v2 : Int32) (v3 : Int32) (s0 : Int32) : AH → Option (Int32 × AH) := fun h =>
  if s0 = 0 then (
    fX9_moveMember_55 r0 v1 v2 v3 s0 h)
  else
  cv 9 r0 (fX9_isAbstract r0 v1 v2) h fun x_54 h =>
  if x_54 = 0 then (
    fX9_moveMember_56 r0 v1 v2 v3 s0 (nI 1) h)
  else
  cv 9 r0 (fX9_of r0 v1 v3 (nI 7)) h fun x_55 h =>
  if x_55 = (nI 1) then (
    fX9_moveMember_56 r0 v1 v2 v3 s0 (nI 1) h)
  else
  fX9_moveMember_55 r0 v1 v2 v3 s0 h
def fX9_moveMember_22  (r0 : Nat) (v1 : Int32) (v2 : Int32) (v3 : Int32) : AH → Option (Int32 × AH) := fun h =>
  fX9_moveMember_23 r0 v1 v2 v3 (nI 0) h
def fX9_moveMember  (r0 : Nat) (v1 : Int32) (v2 : Int32) (v3 : Int32) : AH → Option (Int32 × AH) := fun h =>
  cv 9 r0 (fX9_isMember r0 v1 v2) h fun x_56 h =>
  if x_56 = 0 then (
    fX9_moveMember_22 r0 v1 v2 v3 h)
  else
  cv 9 r0 (fX9_isClass r0 v1 v3) h fun x_57 h =>
  if x_57 = 0 then (
    fX9_moveMember_22 r0 v1 v2 v3 h)
  else
  fX9_moveMember_23 r0 v1 v2 v3 (nI 1) h
theorem sX9_moveMember_216  (r0 : Nat) (v1 : Int32) (v2 : Int32) (v3 : Int32) (s0 : Nat) (s1 : Int32) : Sm mX9_moveMember rI 0 0 216 [some (.ref r0), some (.int v1), some (.int v2), some (.int v3), none, none, none, none] [.int s1, .ref s0] (fX9_moveMember_216 r0 v1 v2 v3 s0 s1) := by
  unfold fX9_moveMember_216
  refine Y_Vi (pc := 216) (st := []) (kc' := 0) (ks' := 0) (ktX9_refused s0 s1) mw_X9_refused mv_X9_refused w1415 (RO.mk rfl rfl rfl rfl) rfl rfl rfl dX9_moveMember_216 ⟨rfl, rfl⟩ (fun x_39 => ?_)
  refine S_ifeq (pc := 219) (tgt := 224) dX9_moveMember_219 (by decide) ?_ ?_
  · refine S_aload_n (pc := 224) dX9_moveMember_224 rfl ?_
    refine S_iload_n (pc := 225) dX9_moveMember_225 rfl ?_
    refine S_iload_n (pc := 226) dX9_moveMember_226 rfl ?_
    refine S_iconst (pc := 227) (v := (nI 1)) dX9_moveMember_227 kI_1 ?_
    refine Y_Vi (pc := 228) (st := []) (kc' := 0) (ks' := 0) (ktX9_its r0 v1 v2 (nI 1)) mw_X9_its mv_X9_its w1243 (RO.mk rfl rfl rfl rfl) rfl rfl rfl dX9_moveMember_228 ⟨rfl, rfl⟩ (fun x_40 => ?_)
    refine Z_istore (pc := 231) (lv' := [some (.ref r0), some (.int v1), some (.int v2), some (.int v3), none, none, none, some (.int x_40)]) dX9_moveMember_231 rfl rfl rfl ?_
    refine S_aload_n (pc := 233) dX9_moveMember_233 rfl ?_
    refine Y_Vv (pc := 234) (st := []) (kc' := 0) (ks' := 0) (ktX9_saves r0) mw_X9_saves mv_X9_saves w1431 (RO.mk rfl rfl rfl rfl) rfl rfl rfl dX9_moveMember_234 ⟨rfl, rfl⟩ ?_
    refine S_aload_n (pc := 237) dX9_moveMember_237 rfl ?_
    refine S_gP (pc := 238) fl_X9_7 rfl dX9_moveMember_238 (fun a_41 => ?_)
    refine S_iload_n (pc := 241) dX9_moveMember_241 rfl ?_
    refine S_iload_n (pc := 242) dX9_moveMember_242 rfl ?_
    refine Y_Ti (pc := 243) (st := [.ref a_41]) (kc' := 0) (ks' := 0) (ktX9_member v1 v2) mw_X9_member w1191 w1190 (RO.mk rfl rfl rfl rfl) rfl rfl rfl dX9_moveMember_243 ⟨rfl, rfl⟩ (fun x_42 => ?_)
    refine S_iconst (pc := 246) (v := (nI 1)) dX9_moveMember_246 kI_1 ?_
    refine S_iadd (pc := 247) dX9_moveMember_247 ?_
    refine S_iload_n (pc := 248) dX9_moveMember_248 rfl ?_
    refine S_stI (pc := 249) dX9_moveMember_249 ?_
    refine S_iload (pc := 250) dX9_moveMember_250 rfl ?_
    exact S_iret (pc := 252) ⟨rfl, rfl⟩ rfl rfl dX9_moveMember_252
  · refine S_iconst (pc := 222) (v := (nI 0)) dX9_moveMember_222 kI_0 ?_
    exact S_iret (pc := 223) ⟨rfl, rfl⟩ rfl rfl dX9_moveMember_223
theorem sX9_moveMember_185  (r0 : Nat) (v1 : Int32) (v2 : Int32) (v3 : Int32) (v4 : Int32) (v5 : Int32) (s0 : Int32) : Sm mX9_moveMember rI 0 0 185 [some (.ref r0), some (.int v1), some (.int v2), some (.int v3), some (.int v4), some (.int v5), none, none] [.int s0] (fX9_moveMember_185 r0 v1 v2 v3 v4 v5 s0) := by
  unfold fX9_moveMember_185
  refine Z_istore (pc := 185) (lv' := [some (.ref r0), some (.int v1), some (.int v2), some (.int v3), some (.int v4), some (.int v5), some (.int s0), none]) dX9_moveMember_185 rfl rfl rfl ?_
  refine S_aload_n (pc := 187) dX9_moveMember_187 rfl ?_
  refine S_iload (pc := 188) dX9_moveMember_188 rfl ?_
  refine S_ifne (pc := 190) (tgt := 197) dX9_moveMember_190 (by decide) ?_ ?_
  · refine S_iload (pc := 197) dX9_moveMember_197 rfl ?_
    refine S_ifne (pc := 199) (tgt := 206) dX9_moveMember_199 (by decide) ?_ ?_
    · refine S_iload (pc := 206) dX9_moveMember_206 rfl ?_
      refine S_ifne (pc := 208) (tgt := 215) dX9_moveMember_208 (by decide) ?_ ?_
      · refine S_iconst (pc := 215) (v := (nI 0)) dX9_moveMember_215 kI_0 ?_
        exact (S_lv (lv0 := [some (.ref r0), some (.int v1), some (.int v2), some (.int v3), none, none, none, none]) (And.intro rfl (And.intro rfl (And.intro rfl (And.intro rfl trivial)))) (sX9_moveMember_216 r0 v1 v2 v3 r0 (nI 0)))
      · refine S_iconst (pc := 211) (v := (nI 3)) dX9_moveMember_211 kI_3 ?_
        refine S_goto (pc := 212) (tgt := 216) dX9_moveMember_212 (by decide) ?_
        exact (S_lv (lv0 := [some (.ref r0), some (.int v1), some (.int v2), some (.int v3), none, none, none, none]) (And.intro rfl (And.intro rfl (And.intro rfl (And.intro rfl trivial)))) (sX9_moveMember_216 r0 v1 v2 v3 r0 (nI 3)))
    · refine S_iconst (pc := 202) (v := (nI 2)) dX9_moveMember_202 kI_2 ?_
      refine S_goto (pc := 203) (tgt := 216) dX9_moveMember_203 (by decide) ?_
      exact (S_lv (lv0 := [some (.ref r0), some (.int v1), some (.int v2), some (.int v3), none, none, none, none]) (And.intro rfl (And.intro rfl (And.intro rfl (And.intro rfl trivial)))) (sX9_moveMember_216 r0 v1 v2 v3 r0 (nI 2)))
  · refine S_iconst (pc := 193) (v := (nI 1)) dX9_moveMember_193 kI_1 ?_
    refine S_goto (pc := 194) (tgt := 216) dX9_moveMember_194 (by decide) ?_
    exact (S_lv (lv0 := [some (.ref r0), some (.int v1), some (.int v2), some (.int v3), none, none, none, none]) (And.intro rfl (And.intro rfl (And.intro rfl (And.intro rfl trivial)))) (sX9_moveMember_216 r0 v1 v2 v3 r0 (nI 1)))
theorem sX9_moveMember_184  (r0 : Nat) (v1 : Int32) (v2 : Int32) (v3 : Int32) (v4 : Int32) (v5 : Int32) : Sm mX9_moveMember rI 0 0 184 [some (.ref r0), some (.int v1), some (.int v2), some (.int v3), some (.int v4), some (.int v5), none, none] [] (fX9_moveMember_184 r0 v1 v2 v3 v4 v5) := by
  unfold fX9_moveMember_184
  refine S_iconst (pc := 184) (v := (nI 0)) dX9_moveMember_184 kI_0 ?_
  exact (sX9_moveMember_185 r0 v1 v2 v3 v4 v5 (nI 0))
theorem sX9_moveMember_120  (r0 : Nat) (v1 : Int32) (v2 : Int32) (v3 : Int32) (v4 : Int32) (s0 : Int32) : Sm mX9_moveMember rI 0 0 120 [some (.ref r0), some (.int v1), some (.int v2), some (.int v3), some (.int v4), none, none, none] [.int s0] (fX9_moveMember_120 r0 v1 v2 v3 v4 s0) := by
  unfold fX9_moveMember_120
  refine Z_istore (pc := 120) (lv' := [some (.ref r0), some (.int v1), some (.int v2), some (.int v3), some (.int v4), some (.int s0), none, none]) dX9_moveMember_120 rfl rfl rfl ?_
  refine S_iload (pc := 122) dX9_moveMember_122 rfl ?_
  refine S_ifeq (pc := 124) (tgt := 184) dX9_moveMember_124 (by decide) ?_ ?_
  · exact (sX9_moveMember_184 r0 v1 v2 v3 v4 s0)
  · refine S_iload_n (pc := 127) dX9_moveMember_127 rfl ?_
    refine S_ifeq (pc := 128) (tgt := 184) dX9_moveMember_128 (by decide) ?_ ?_
    · exact (sX9_moveMember_184 r0 v1 v2 v3 v4 s0)
    · refine S_aload_n (pc := 131) dX9_moveMember_131 rfl ?_
      refine S_iload_n (pc := 132) dX9_moveMember_132 rfl ?_
      refine S_iload_n (pc := 133) dX9_moveMember_133 rfl ?_
      refine S_aload_n (pc := 134) dX9_moveMember_134 rfl ?_
      refine S_iload_n (pc := 135) dX9_moveMember_135 rfl ?_
      refine S_iload_n (pc := 136) dX9_moveMember_136 rfl ?_
      refine S_iconst (pc := 137) (v := (nI 0)) dX9_moveMember_137 kI_0 ?_
      refine Y_Vi (pc := 138) (st := [.int v3, .int v1, .ref r0]) (kc' := 0) (ks' := 0) (ktX9_its r0 v1 v2 (nI 0)) mw_X9_its mv_X9_its w1243 (RO.mk rfl rfl rfl rfl) rfl rfl rfl dX9_moveMember_138 ⟨rfl, rfl⟩ (fun x_43 => ?_)
      refine S_aload_n (pc := 141) dX9_moveMember_141 rfl ?_
      refine S_iload_n (pc := 142) dX9_moveMember_142 rfl ?_
      refine S_iload_n (pc := 143) dX9_moveMember_143 rfl ?_
      refine S_iconst (pc := 144) (v := (nI 2)) dX9_moveMember_144 kI_2 ?_
      refine Y_Vi (pc := 145) (st := [.int x_43, .int v3, .int v1, .ref r0]) (kc' := 0) (ks' := 0) (ktX9_its r0 v1 v2 (nI 2)) mw_X9_its mv_X9_its w1243 (RO.mk rfl rfl rfl rfl) rfl rfl rfl dX9_moveMember_145 ⟨rfl, rfl⟩ (fun x_44 => ?_)
      refine S_aload_n (pc := 148) dX9_moveMember_148 rfl ?_
      refine S_iload_n (pc := 149) dX9_moveMember_149 rfl ?_
      refine S_iload_n (pc := 150) dX9_moveMember_150 rfl ?_
      refine S_bipush (pc := 151) (v := (nI 6)) dX9_moveMember_151 kB_6 ?_
      refine Y_Vi (pc := 153) (st := [.int x_44, .int x_43, .int v3, .int v1, .ref r0]) (kc' := 0) (ks' := 0) (ktX9_its r0 v1 v2 (nI 6)) mw_X9_its mv_X9_its w1243 (RO.mk rfl rfl rfl rfl) rfl rfl rfl dX9_moveMember_153 ⟨rfl, rfl⟩ (fun x_45 => ?_)
      refine S_aload_n (pc := 156) dX9_moveMember_156 rfl ?_
      refine S_iload_n (pc := 157) dX9_moveMember_157 rfl ?_
      refine S_iload_n (pc := 158) dX9_moveMember_158 rfl ?_
      refine S_bipush (pc := 159) (v := (nI 7)) dX9_moveMember_159 kB_7 ?_
      refine Y_Vi (pc := 161) (st := [.int x_45, .int x_44, .int x_43, .int v3, .int v1, .ref r0]) (kc' := 0) (ks' := 0) (ktX9_its r0 v1 v2 (nI 7)) mw_X9_its mv_X9_its w1243 (RO.mk rfl rfl rfl rfl) rfl rfl rfl dX9_moveMember_161 ⟨rfl, rfl⟩ (fun x_46 => ?_)
      refine S_aload_n (pc := 164) dX9_moveMember_164 rfl ?_
      refine S_iload_n (pc := 165) dX9_moveMember_165 rfl ?_
      refine S_iload_n (pc := 166) dX9_moveMember_166 rfl ?_
      refine S_bipush (pc := 167) (v := (nI 8)) dX9_moveMember_167 kB_8 ?_
      refine Y_Vi (pc := 169) (st := [.int x_46, .int x_45, .int x_44, .int x_43, .int v3, .int v1, .ref r0]) (kc' := 0) (ks' := 0) (ktX9_its r0 v1 v2 (nI 8)) mw_X9_its mv_X9_its w1243 (RO.mk rfl rfl rfl rfl) rfl rfl rfl dX9_moveMember_169 ⟨rfl, rfl⟩ (fun x_47 => ?_)
      refine Y_Vi (pc := 172) (st := []) (kc' := 0) (ks' := 0) (ktX9_found r0 v1 v3 x_43 x_44 x_45 x_46 x_47) mw_X9_found mv_X9_found w1239 (RO.mk rfl rfl rfl rfl) rfl rfl rfl dX9_moveMember_172 ⟨rfl, rfl⟩ (fun x_48 => ?_)
      refine S_bipush (pc := 175) (v := (-2 : Int32)) dX9_moveMember_175 kB_m2 ?_
      refine S_icmpne (pc := 177) (tgt := 184) dX9_moveMember_177 (by decide) ?_ ?_
      · exact (sX9_moveMember_184 r0 v1 v2 v3 v4 s0)
      · refine S_iconst (pc := 180) (v := (nI 1)) dX9_moveMember_180 kI_1 ?_
        refine S_goto (pc := 181) (tgt := 185) dX9_moveMember_181 (by decide) ?_
        exact (sX9_moveMember_185 r0 v1 v2 v3 v4 s0 (nI 1))
theorem sX9_moveMember_119  (r0 : Nat) (v1 : Int32) (v2 : Int32) (v3 : Int32) (v4 : Int32) : Sm mX9_moveMember rI 0 0 119 [some (.ref r0), some (.int v1), some (.int v2), some (.int v3), some (.int v4), none, none, none] [] (fX9_moveMember_119 r0 v1 v2 v3 v4) := by
  unfold fX9_moveMember_119
  refine S_iconst (pc := 119) (v := (nI 0)) dX9_moveMember_119 kI_0 ?_
  exact (sX9_moveMember_120 r0 v1 v2 v3 v4 (nI 0))
theorem sX9_moveMember_56  (r0 : Nat) (v1 : Int32) (v2 : Int32) (v3 : Int32) (v4 : Int32) (s0 : Int32) : Sm mX9_moveMember rI 0 0 56 [some (.ref r0), some (.int v1), some (.int v2), some (.int v3), some (.int v4), none, none, none] [.int s0] (fX9_moveMember_56 r0 v1 v2 v3 v4 s0) := by
  unfold fX9_moveMember_56
  refine Z_istore (pc := 56) (lv' := [some (.ref r0), some (.int v1), some (.int v2), some (.int v3), some (.int v4), some (.int s0), none, none]) dX9_moveMember_56 rfl rfl rfl ?_
  refine S_iload (pc := 58) dX9_moveMember_58 rfl ?_
  refine S_ifeq (pc := 60) (tgt := 119) dX9_moveMember_60 (by decide) ?_ ?_
  · exact (S_lv (lv0 := [some (.ref r0), some (.int v1), some (.int v2), some (.int v3), some (.int v4), none, none, none]) (And.intro rfl (And.intro rfl (And.intro rfl (And.intro rfl (And.intro rfl trivial))))) (sX9_moveMember_119 r0 v1 v2 v3 v4))
  · refine S_aload_n (pc := 63) dX9_moveMember_63 rfl ?_
    refine S_iload_n (pc := 64) dX9_moveMember_64 rfl ?_
    refine S_iload_n (pc := 65) dX9_moveMember_65 rfl ?_
    refine Y_Vi (pc := 66) (st := []) (kc' := 0) (ks' := 0) (ktX9_isInterface r0 v1 v3) mw_X9_isInterface mv_X9_isInterface w1282 (RO.mk rfl rfl rfl rfl) rfl rfl rfl dX9_moveMember_66 ⟨rfl, rfl⟩ (fun x_49 => ?_)
    refine S_ifeq (pc := 69) (tgt := 115) dX9_moveMember_69 (by decide) ?_ ?_
    · refine S_iconst (pc := 115) (v := (nI 1)) dX9_moveMember_115 kI_1 ?_
      refine S_goto (pc := 116) (tgt := 120) dX9_moveMember_116 (by decide) ?_
      exact (S_lv (lv0 := [some (.ref r0), some (.int v1), some (.int v2), some (.int v3), some (.int v4), none, none, none]) (And.intro rfl (And.intro rfl (And.intro rfl (And.intro rfl (And.intro rfl trivial))))) (sX9_moveMember_120 r0 v1 v2 v3 v4 (nI 1)))
    · refine S_aload_n (pc := 72) dX9_moveMember_72 rfl ?_
      refine S_iload_n (pc := 73) dX9_moveMember_73 rfl ?_
      refine S_iload_n (pc := 74) dX9_moveMember_74 rfl ?_
      refine S_iconst (pc := 75) (v := (nI 3)) dX9_moveMember_75 kI_3 ?_
      refine Y_Vi (pc := 76) (st := []) (kc' := 0) (ks' := 0) (ktX9_its r0 v1 v2 (nI 3)) mw_X9_its mv_X9_its w1243 (RO.mk rfl rfl rfl rfl) rfl rfl rfl dX9_moveMember_76 ⟨rfl, rfl⟩ (fun x_50 => ?_)
      refine S_iconst (pc := 79) (v := (nI 3)) dX9_moveMember_79 kI_3 ?_
      refine S_icmpne (pc := 80) (tgt := 119) dX9_moveMember_80 (by decide) ?_ ?_
      · exact (S_lv (lv0 := [some (.ref r0), some (.int v1), some (.int v2), some (.int v3), some (.int v4), none, none, none]) (And.intro rfl (And.intro rfl (And.intro rfl (And.intro rfl (And.intro rfl trivial))))) (sX9_moveMember_119 r0 v1 v2 v3 v4))
      · refine S_aload_n (pc := 83) dX9_moveMember_83 rfl ?_
        refine S_iload_n (pc := 84) dX9_moveMember_84 rfl ?_
        refine S_iload_n (pc := 85) dX9_moveMember_85 rfl ?_
        refine Y_Vi (pc := 86) (st := []) (kc' := 0) (ks' := 0) (ktX9_isMethod r0 v1 v2) mw_X9_isMethod mv_X9_isMethod w1278 (RO.mk rfl rfl rfl rfl) rfl rfl rfl dX9_moveMember_86 ⟨rfl, rfl⟩ (fun x_51 => ?_)
        refine S_ifeq (pc := 89) (tgt := 104) dX9_moveMember_89 (by decide) ?_ ?_
        · refine S_aload_n (pc := 104) dX9_moveMember_104 rfl ?_
          refine S_iload_n (pc := 105) dX9_moveMember_105 rfl ?_
          refine S_iload_n (pc := 106) dX9_moveMember_106 rfl ?_
          refine S_iconst (pc := 107) (v := (nI 4)) dX9_moveMember_107 kI_4 ?_
          refine Y_Vi (pc := 108) (st := []) (kc' := 0) (ks' := 0) (ktX9_its r0 v1 v2 (nI 4)) mw_X9_its mv_X9_its w1243 (RO.mk rfl rfl rfl rfl) rfl rfl rfl dX9_moveMember_108 ⟨rfl, rfl⟩ (fun x_52 => ?_)
          refine S_iconst (pc := 111) (v := (nI 3)) dX9_moveMember_111 kI_3 ?_
          refine S_icmpne (pc := 112) (tgt := 119) dX9_moveMember_112 (by decide) ?_ ?_
          · exact (S_lv (lv0 := [some (.ref r0), some (.int v1), some (.int v2), some (.int v3), some (.int v4), none, none, none]) (And.intro rfl (And.intro rfl (And.intro rfl (And.intro rfl (And.intro rfl trivial))))) (sX9_moveMember_119 r0 v1 v2 v3 v4))
          · refine S_iconst (pc := 115) (v := (nI 1)) dX9_moveMember_115 kI_1 ?_
            refine S_goto (pc := 116) (tgt := 120) dX9_moveMember_116 (by decide) ?_
            exact (S_lv (lv0 := [some (.ref r0), some (.int v1), some (.int v2), some (.int v3), some (.int v4), none, none, none]) (And.intro rfl (And.intro rfl (And.intro rfl (And.intro rfl (And.intro rfl trivial))))) (sX9_moveMember_120 r0 v1 v2 v3 v4 (nI 1)))
        · refine S_aload_n (pc := 92) dX9_moveMember_92 rfl ?_
          refine S_iload_n (pc := 93) dX9_moveMember_93 rfl ?_
          refine S_iload_n (pc := 94) dX9_moveMember_94 rfl ?_
          refine Y_Vi (pc := 95) (st := []) (kc' := 0) (ks' := 0) (ktX9_isFinal r0 v1 v2) mw_X9_isFinal mv_X9_isFinal w1262 (RO.mk rfl rfl rfl rfl) rfl rfl rfl dX9_moveMember_95 ⟨rfl, rfl⟩ (fun x_53 => ?_)
          refine S_ifne (pc := 98) (tgt := 119) dX9_moveMember_98 (by decide) ?_ ?_
          · exact (S_lv (lv0 := [some (.ref r0), some (.int v1), some (.int v2), some (.int v3), some (.int v4), none, none, none]) (And.intro rfl (And.intro rfl (And.intro rfl (And.intro rfl (And.intro rfl trivial))))) (sX9_moveMember_119 r0 v1 v2 v3 v4))
          · refine S_goto (pc := 101) (tgt := 115) dX9_moveMember_101 (by decide) ?_
            refine S_iconst (pc := 115) (v := (nI 1)) dX9_moveMember_115 kI_1 ?_
            refine S_goto (pc := 116) (tgt := 120) dX9_moveMember_116 (by decide) ?_
            exact (S_lv (lv0 := [some (.ref r0), some (.int v1), some (.int v2), some (.int v3), some (.int v4), none, none, none]) (And.intro rfl (And.intro rfl (And.intro rfl (And.intro rfl (And.intro rfl trivial))))) (sX9_moveMember_120 r0 v1 v2 v3 v4 (nI 1)))
theorem sX9_moveMember_55  (r0 : Nat) (v1 : Int32) (v2 : Int32) (v3 : Int32) (v4 : Int32) : Sm mX9_moveMember rI 0 0 55 [some (.ref r0), some (.int v1), some (.int v2), some (.int v3), some (.int v4), none, none, none] [] (fX9_moveMember_55 r0 v1 v2 v3 v4) := by
  unfold fX9_moveMember_55
  refine S_iconst (pc := 55) (v := (nI 0)) dX9_moveMember_55 kI_0 ?_
  exact (sX9_moveMember_56 r0 v1 v2 v3 v4 (nI 0))
theorem sX9_moveMember_23  (r0 : Nat) (v1 : Int32) (v2 : Int32) (v3 : Int32) (s0 : Int32) : Sm mX9_moveMember rI 0 0 23 [some (.ref r0), some (.int v1), some (.int v2), some (.int v3), none, none, none, none] [.int s0] (fX9_moveMember_23 r0 v1 v2 v3 s0) := by
  unfold fX9_moveMember_23
  refine Z_istore (pc := 23) (lv' := [some (.ref r0), some (.int v1), some (.int v2), some (.int v3), some (.int s0), none, none, none]) dX9_moveMember_23 rfl rfl rfl ?_
  refine S_iload (pc := 25) dX9_moveMember_25 rfl ?_
  refine S_ifeq (pc := 27) (tgt := 55) dX9_moveMember_27 (by decide) ?_ ?_
  · exact (sX9_moveMember_55 r0 v1 v2 v3 s0)
  · refine S_aload_n (pc := 30) dX9_moveMember_30 rfl ?_
    refine S_iload_n (pc := 31) dX9_moveMember_31 rfl ?_
    refine S_iload_n (pc := 32) dX9_moveMember_32 rfl ?_
    refine Y_Vi (pc := 33) (st := []) (kc' := 0) (ks' := 0) (ktX9_isAbstract r0 v1 v2) mw_X9_isAbstract mv_X9_isAbstract w1294 (RO.mk rfl rfl rfl rfl) rfl rfl rfl dX9_moveMember_33 ⟨rfl, rfl⟩ (fun x_54 => ?_)
    refine S_ifeq (pc := 36) (tgt := 51) dX9_moveMember_36 (by decide) ?_ ?_
    · refine S_iconst (pc := 51) (v := (nI 1)) dX9_moveMember_51 kI_1 ?_
      refine S_goto (pc := 52) (tgt := 56) dX9_moveMember_52 (by decide) ?_
      exact (sX9_moveMember_56 r0 v1 v2 v3 s0 (nI 1))
    · refine S_aload_n (pc := 39) dX9_moveMember_39 rfl ?_
      refine S_iload_n (pc := 40) dX9_moveMember_40 rfl ?_
      refine S_iload_n (pc := 41) dX9_moveMember_41 rfl ?_
      refine S_bipush (pc := 42) (v := (nI 7)) dX9_moveMember_42 kB_7 ?_
      refine Y_Vi (pc := 44) (st := []) (kc' := 0) (ks' := 0) (ktX9_of r0 v1 v3 (nI 7)) mw_X9_of mv_X9_of w1219 (RO.mk rfl rfl rfl rfl) rfl rfl rfl dX9_moveMember_44 ⟨rfl, rfl⟩ (fun x_55 => ?_)
      refine S_iconst (pc := 47) (v := (nI 1)) dX9_moveMember_47 kI_1 ?_
      refine S_icmpne (pc := 48) (tgt := 55) dX9_moveMember_48 (by decide) ?_ ?_
      · exact (sX9_moveMember_55 r0 v1 v2 v3 s0)
      · refine S_iconst (pc := 51) (v := (nI 1)) dX9_moveMember_51 kI_1 ?_
        refine S_goto (pc := 52) (tgt := 56) dX9_moveMember_52 (by decide) ?_
        exact (sX9_moveMember_56 r0 v1 v2 v3 s0 (nI 1))
theorem sX9_moveMember_22  (r0 : Nat) (v1 : Int32) (v2 : Int32) (v3 : Int32) : Sm mX9_moveMember rI 0 0 22 [some (.ref r0), some (.int v1), some (.int v2), some (.int v3), none, none, none, none] [] (fX9_moveMember_22 r0 v1 v2 v3) := by
  unfold fX9_moveMember_22
  refine S_iconst (pc := 22) (v := (nI 0)) dX9_moveMember_22 kI_0 ?_
  exact (sX9_moveMember_23 r0 v1 v2 v3 (nI 0))
theorem sX9_moveMember  (r0 : Nat) (v1 : Int32) (v2 : Int32) (v3 : Int32) : Sm mX9_moveMember rI 0 0 0 [some (.ref r0), some (.int v1), some (.int v2), some (.int v3), none, none, none, none] [] (fX9_moveMember r0 v1 v2 v3) := by
  unfold fX9_moveMember
  refine S_aload_n (pc := 0) dX9_moveMember_0 rfl ?_
  refine S_iload_n (pc := 1) dX9_moveMember_1 rfl ?_
  refine S_iload_n (pc := 2) dX9_moveMember_2 rfl ?_
  refine Y_Vi (pc := 3) (st := []) (kc' := 0) (ks' := 0) (ktX9_isMember r0 v1 v2) mw_X9_isMember mv_X9_isMember w1514 (RO.mk rfl rfl rfl rfl) rfl rfl rfl dX9_moveMember_3 ⟨rfl, rfl⟩ (fun x_56 => ?_)
  refine S_ifeq (pc := 6) (tgt := 22) dX9_moveMember_6 (by decide) ?_ ?_
  · exact (sX9_moveMember_22 r0 v1 v2 v3)
  · refine S_aload_n (pc := 9) dX9_moveMember_9 rfl ?_
    refine S_iload_n (pc := 10) dX9_moveMember_10 rfl ?_
    refine S_iload_n (pc := 11) dX9_moveMember_11 rfl ?_
    refine Y_Vi (pc := 12) (st := []) (kc' := 0) (ks' := 0) (ktX9_isClass r0 v1 v3) mw_X9_isClass mv_X9_isClass w1209 (RO.mk rfl rfl rfl rfl) rfl rfl rfl dX9_moveMember_12 ⟨rfl, rfl⟩ (fun x_57 => ?_)
    refine S_ifeq (pc := 15) (tgt := 22) dX9_moveMember_15 (by decide) ?_ ?_
    · exact (sX9_moveMember_22 r0 v1 v2 v3)
    · refine S_iconst (pc := 18) (v := (nI 1)) dX9_moveMember_18 kI_1 ?_
      refine S_goto (pc := 19) (tgt := 23) dX9_moveMember_19 (by decide) ?_
      exact (sX9_moveMember_23 r0 v1 v2 v3 (nI 1))
theorem ktX9_moveMember (r0 : Nat) (v1 : Int32) (v2 : Int32) (v3 : Int32) : Ct mX9_moveMember rI [.ref r0, .int v1, .int v2, .int v3] (fX9_moveMember r0 v1 v2 v3) := Ct.of (z := 4) pn_X9 rfl rfl rfl (sX9_moveMember r0 v1 v2 v3)
def mX9_removeClass : MI := (yX9_removeClass, cX9_removeClass, 5, (some .int), { frames := 3, cells := 0, slots := 0, locals := 68 }, [])
theorem mw_X9_removeClass : MW mX9_removeClass 2 := ⟨w1442, w11, ⟨by decide, by decide⟩, by decide +kernel⟩
theorem mv_X9_removeClass : MV mX9_removeClass 9 := ⟨_, rfl, w1440, w1441⟩
def fX9_removeClass_92 (k68 : Nat → Int32 → Int32 → Int32 → Int32 → AH → Option (Int32 × AH)) (r0 : Nat) (v1 : Int32) (v2 : Int32) (v3 : Int32) (v4 : Int32) : AH → Option (Int32 × AH) := fun h =>
  k68 r0 v1 v2 v3 (v4 + (-1 : Int32)) h
def bX9_removeClass_68  (k68 : Nat → Int32 → Int32 → Int32 → Int32 → AH → Option (Int32 × AH)) (r0 : Nat) (v1 : Int32) (v2 : Int32) (v3 : Int32) (v4 : Int32) : AH → Option (Int32 × AH) := fun h =>
  if v4 < 0 then (
    cv 9 r0 (fX9_memberMany r0 v1) h fun x_17 h =>
    some ((v3 - x_17), h))
  else
  cv 9 r0 (fX9_its r0 v1 v4 (nI 1)) h fun x_18 h =>
  if x_18 = v2 then (
    cv 9 r0 (fX9_drops r0 v1 v4) h fun _ h =>
    fX9_removeClass_92 k68 r0 v1 v2 v3 v4 h)
  else
  fX9_removeClass_92 k68 r0 v1 v2 v3 v4 h
def lX9_removeClass_68  : Nat → Nat → Int32 → Int32 → Int32 → Int32 → AH → Option (Int32 × AH)
  | 0 => fun _ _ _ _ _ _ => none
  | n + 1 => bX9_removeClass_68 (lX9_removeClass_68 n)
def fX9_removeClass_32  (r0 : Nat) (v1 : Int32) (v2 : Int32) (s0 : Nat) (s1 : Int32) : AH → Option (Int32 × AH) := fun h =>
  cv 9 s0 (fX9_refused s0 s1) h fun x_19 h =>
  if x_19 = 0 then (
    cv 9 r0 (fX9_saves r0) h fun _ h =>
    (gP 9 r0 0 h).bind fun a_20 =>
    bd (fX9_at v1 v2 h) fun x_21 h =>
    (stI a_20 (x_21 + (nI 0)) (nI 0) h).bind fun h =>
    cv 9 r0 (fX9_memberMany r0 v1) h fun x_22 h =>
    lX9_removeClass_68 fuel r0 v1 v2 x_22 (x_22 - (nI 1)) h)
  else
  some ((nI 0), h)
def fX9_removeClass  (r0 : Nat) (v1 : Int32) (v2 : Int32) : AH → Option (Int32 × AH) := fun h =>
  cv 9 r0 (fX9_isClass r0 v1 v2) h fun x_23 h =>
  if x_23 = 0 then (
    fX9_removeClass_32 r0 v1 v2 r0 (nI 1) h)
  else
  if v2 = 0 then (
    fX9_removeClass_32 r0 v1 v2 r0 (nI 2) h)
  else
  cv 9 r0 (fX9_isAboveOne r0 v1 v2) h fun x_24 h =>
  if x_24 = 0 then (
    fX9_removeClass_32 r0 v1 v2 r0 (nI 0) h)
  else
  fX9_removeClass_32 r0 v1 v2 r0 (nI 2) h
theorem sX9_removeClass_92 {k68 : Nat → Int32 → Int32 → Int32 → Int32 → AH → Option (Int32 × AH)} (h68 : ∀ (r0 : Nat) (v1 : Int32) (v2 : Int32) (v3 : Int32) (v4 : Int32), Sm mX9_removeClass rI 0 0 68 [some (.ref r0), some (.int v1), some (.int v2), some (.int v3), some (.int v4)] [] (k68 r0 v1 v2 v3 v4)) (r0 : Nat) (v1 : Int32) (v2 : Int32) (v3 : Int32) (v4 : Int32) : Sm mX9_removeClass rI 0 0 92 [some (.ref r0), some (.int v1), some (.int v2), some (.int v3), some (.int v4)] [] (fX9_removeClass_92 k68 r0 v1 v2 v3 v4) := by
  unfold fX9_removeClass_92
  refine Z_iinc (pc := 92) (v := (-1 : Int32)) (lv' := [some (.ref r0), some (.int v1), some (.int v2), some (.int v3), some (.int (v4 + (-1 : Int32)))]) dX9_removeClass_92 rfl kI_m1 rfl rfl rfl ?_
  refine S_goto (pc := 95) (tgt := 68) dX9_removeClass_95 (by decide) ?_
  exact (h68 r0 v1 v2 v3 (v4 + (-1 : Int32)))
theorem sbX9_removeClass_68  {k68 : Nat → Int32 → Int32 → Int32 → Int32 → AH → Option (Int32 × AH)} (h68 : ∀ (r0 : Nat) (v1 : Int32) (v2 : Int32) (v3 : Int32) (v4 : Int32), Sm mX9_removeClass rI 0 0 68 [some (.ref r0), some (.int v1), some (.int v2), some (.int v3), some (.int v4)] [] (k68 r0 v1 v2 v3 v4)) (r0 : Nat) (v1 : Int32) (v2 : Int32) (v3 : Int32) (v4 : Int32) : Sm mX9_removeClass rI 0 0 68 [some (.ref r0), some (.int v1), some (.int v2), some (.int v3), some (.int v4)] [] (bX9_removeClass_68 k68 r0 v1 v2 v3 v4) := by
  unfold bX9_removeClass_68
  refine S_iload (pc := 68) dX9_removeClass_68 rfl ?_
  refine S_iflt (pc := 70) (tgt := 98) dX9_removeClass_70 (by decide) ?_ ?_
  · refine S_iload_n (pc := 98) dX9_removeClass_98 rfl ?_
    refine S_aload_n (pc := 99) dX9_removeClass_99 rfl ?_
    refine S_iload_n (pc := 100) dX9_removeClass_100 rfl ?_
    refine Y_Vi (pc := 101) (st := [.int v3]) (kc' := 0) (ks' := 0) (ktX9_memberMany r0 v1) mw_X9_memberMany mv_X9_memberMany w1186 (RO.mk rfl rfl rfl rfl) rfl rfl rfl dX9_removeClass_101 ⟨rfl, rfl⟩ (fun x_17 => ?_)
    refine S_isub (pc := 104) dX9_removeClass_104 ?_
    exact S_iret (pc := 105) ⟨rfl, rfl⟩ rfl rfl dX9_removeClass_105
  · refine S_aload_n (pc := 73) dX9_removeClass_73 rfl ?_
    refine S_iload_n (pc := 74) dX9_removeClass_74 rfl ?_
    refine S_iload (pc := 75) dX9_removeClass_75 rfl ?_
    refine S_iconst (pc := 77) (v := (nI 1)) dX9_removeClass_77 kI_1 ?_
    refine Y_Vi (pc := 78) (st := []) (kc' := 0) (ks' := 0) (ktX9_its r0 v1 v4 (nI 1)) mw_X9_its mv_X9_its w1243 (RO.mk rfl rfl rfl rfl) rfl rfl rfl dX9_removeClass_78 ⟨rfl, rfl⟩ (fun x_18 => ?_)
    refine S_iload_n (pc := 81) dX9_removeClass_81 rfl ?_
    refine S_icmpne (pc := 82) (tgt := 92) dX9_removeClass_82 (by decide) ?_ ?_
    · exact (sX9_removeClass_92 h68 r0 v1 v2 v3 v4)
    · refine S_aload_n (pc := 85) dX9_removeClass_85 rfl ?_
      refine S_iload_n (pc := 86) dX9_removeClass_86 rfl ?_
      refine S_iload (pc := 87) dX9_removeClass_87 rfl ?_
      refine Y_Vv (pc := 89) (st := []) (kc' := 0) (ks' := 0) (ktX9_drops r0 v1 v4) mw_X9_drops mv_X9_drops w1447 (RO.mk rfl rfl rfl rfl) rfl rfl rfl dX9_removeClass_89 ⟨rfl, rfl⟩ ?_
      exact (sX9_removeClass_92 h68 r0 v1 v2 v3 v4)
theorem sX9_removeClass_68  : ∀ (n : Nat) (r0 : Nat) (v1 : Int32) (v2 : Int32) (v3 : Int32) (v4 : Int32), Sm mX9_removeClass rI 0 0 68 [some (.ref r0), some (.int v1), some (.int v2), some (.int v3), some (.int v4)] [] (lX9_removeClass_68 n r0 v1 v2 v3 v4)
  | 0, _, _, _, _, _ => S_none
  | n + 1, r0, v1, v2, v3, v4 => sbX9_removeClass_68 (sX9_removeClass_68 n) r0 v1 v2 v3 v4
theorem sX9_removeClass_32  (r0 : Nat) (v1 : Int32) (v2 : Int32) (s0 : Nat) (s1 : Int32) : Sm mX9_removeClass rI 0 0 32 [some (.ref r0), some (.int v1), some (.int v2), none, none] [.int s1, .ref s0] (fX9_removeClass_32 r0 v1 v2 s0 s1) := by
  unfold fX9_removeClass_32
  refine Y_Vi (pc := 32) (st := []) (kc' := 0) (ks' := 0) (ktX9_refused s0 s1) mw_X9_refused mv_X9_refused w1415 (RO.mk rfl rfl rfl rfl) rfl rfl rfl dX9_removeClass_32 ⟨rfl, rfl⟩ (fun x_19 => ?_)
  refine S_ifeq (pc := 35) (tgt := 40) dX9_removeClass_35 (by decide) ?_ ?_
  · refine S_aload_n (pc := 40) dX9_removeClass_40 rfl ?_
    refine Y_Vv (pc := 41) (st := []) (kc' := 0) (ks' := 0) (ktX9_saves r0) mw_X9_saves mv_X9_saves w1431 (RO.mk rfl rfl rfl rfl) rfl rfl rfl dX9_removeClass_41 ⟨rfl, rfl⟩ ?_
    refine S_aload_n (pc := 44) dX9_removeClass_44 rfl ?_
    refine S_gP (pc := 45) fl_X9_7 rfl dX9_removeClass_45 (fun a_20 => ?_)
    refine S_iload_n (pc := 48) dX9_removeClass_48 rfl ?_
    refine S_iload_n (pc := 49) dX9_removeClass_49 rfl ?_
    refine Y_Ti (pc := 50) (st := [.ref a_20]) (kc' := 0) (ks' := 0) (ktX9_at v1 v2) mw_X9_at w1180 w1179 (RO.mk rfl rfl rfl rfl) rfl rfl rfl dX9_removeClass_50 ⟨rfl, rfl⟩ (fun x_21 => ?_)
    refine S_iconst (pc := 53) (v := (nI 0)) dX9_removeClass_53 kI_0 ?_
    refine S_iadd (pc := 54) dX9_removeClass_54 ?_
    refine S_iconst (pc := 55) (v := (nI 0)) dX9_removeClass_55 kI_0 ?_
    refine S_stI (pc := 56) dX9_removeClass_56 ?_
    refine S_aload_n (pc := 57) dX9_removeClass_57 rfl ?_
    refine S_iload_n (pc := 58) dX9_removeClass_58 rfl ?_
    refine Y_Vi (pc := 59) (st := []) (kc' := 0) (ks' := 0) (ktX9_memberMany r0 v1) mw_X9_memberMany mv_X9_memberMany w1186 (RO.mk rfl rfl rfl rfl) rfl rfl rfl dX9_removeClass_59 ⟨rfl, rfl⟩ (fun x_22 => ?_)
    refine Z_istore_n (pc := 62) (lv' := [some (.ref r0), some (.int v1), some (.int v2), some (.int x_22), none]) dX9_removeClass_62 rfl rfl rfl ?_
    refine S_iload_n (pc := 63) dX9_removeClass_63 rfl ?_
    refine S_iconst (pc := 64) (v := (nI 1)) dX9_removeClass_64 kI_1 ?_
    refine S_isub (pc := 65) dX9_removeClass_65 ?_
    refine Z_istore (pc := 66) (lv' := [some (.ref r0), some (.int v1), some (.int v2), some (.int x_22), some (.int (x_22 - (nI 1)))]) dX9_removeClass_66 rfl rfl rfl ?_
    exact (sX9_removeClass_68 fuel r0 v1 v2 x_22 (x_22 - (nI 1)))
  · refine S_iconst (pc := 38) (v := (nI 0)) dX9_removeClass_38 kI_0 ?_
    exact S_iret (pc := 39) ⟨rfl, rfl⟩ rfl rfl dX9_removeClass_39
theorem sX9_removeClass  (r0 : Nat) (v1 : Int32) (v2 : Int32) : Sm mX9_removeClass rI 0 0 0 [some (.ref r0), some (.int v1), some (.int v2), none, none] [] (fX9_removeClass r0 v1 v2) := by
  unfold fX9_removeClass
  refine S_aload_n (pc := 0) dX9_removeClass_0 rfl ?_
  refine S_aload_n (pc := 1) dX9_removeClass_1 rfl ?_
  refine S_iload_n (pc := 2) dX9_removeClass_2 rfl ?_
  refine S_iload_n (pc := 3) dX9_removeClass_3 rfl ?_
  refine Y_Vi (pc := 4) (st := [.ref r0]) (kc' := 0) (ks' := 0) (ktX9_isClass r0 v1 v2) mw_X9_isClass mv_X9_isClass w1209 (RO.mk rfl rfl rfl rfl) rfl rfl rfl dX9_removeClass_4 ⟨rfl, rfl⟩ (fun x_23 => ?_)
  refine S_ifne (pc := 7) (tgt := 14) dX9_removeClass_7 (by decide) ?_ ?_
  · refine S_iload_n (pc := 14) dX9_removeClass_14 rfl ?_
    refine S_ifeq (pc := 15) (tgt := 27) dX9_removeClass_15 (by decide) ?_ ?_
    · refine S_iconst (pc := 27) (v := (nI 2)) dX9_removeClass_27 kI_2 ?_
      refine S_goto (pc := 28) (tgt := 32) dX9_removeClass_28 (by decide) ?_
      exact (sX9_removeClass_32 r0 v1 v2 r0 (nI 2))
    · refine S_aload_n (pc := 18) dX9_removeClass_18 rfl ?_
      refine S_iload_n (pc := 19) dX9_removeClass_19 rfl ?_
      refine S_iload_n (pc := 20) dX9_removeClass_20 rfl ?_
      refine Y_Vi (pc := 21) (st := [.ref r0]) (kc' := 0) (ks' := 0) (ktX9_isAboveOne r0 v1 v2) mw_X9_isAboveOne mv_X9_isAboveOne w1443 (RO.mk rfl rfl rfl rfl) rfl rfl rfl dX9_removeClass_21 ⟨rfl, rfl⟩ (fun x_24 => ?_)
      refine S_ifeq (pc := 24) (tgt := 31) dX9_removeClass_24 (by decide) ?_ ?_
      · refine S_iconst (pc := 31) (v := (nI 0)) dX9_removeClass_31 kI_0 ?_
        exact (sX9_removeClass_32 r0 v1 v2 r0 (nI 0))
      · refine S_iconst (pc := 27) (v := (nI 2)) dX9_removeClass_27 kI_2 ?_
        refine S_goto (pc := 28) (tgt := 32) dX9_removeClass_28 (by decide) ?_
        exact (sX9_removeClass_32 r0 v1 v2 r0 (nI 2))
  · refine S_iconst (pc := 10) (v := (nI 1)) dX9_removeClass_10 kI_1 ?_
    refine S_goto (pc := 11) (tgt := 32) dX9_removeClass_11 (by decide) ?_
    exact (sX9_removeClass_32 r0 v1 v2 r0 (nI 1))
theorem ktX9_removeClass (r0 : Nat) (v1 : Int32) (v2 : Int32) : Ct mX9_removeClass rI [.ref r0, .int v1, .int v2] (fX9_removeClass r0 v1 v2) := Ct.of (z := 2) pn_X9 rfl rfl rfl (sX9_removeClass r0 v1 v2)
def mX9_removeClient : MI := (yX9_removeClient, cX9_removeClient, 3, (some .int), { frames := 2, cells := 0, slots := 0, locals := 43 }, [])
theorem mw_X9_removeClient : MW mX9_removeClient 1 := ⟨w1592, w11, ⟨by decide, by decide⟩, by decide +kernel⟩
theorem mv_X9_removeClient : MV mX9_removeClient 9 := ⟨_, rfl, w1590, w1591⟩
def bX9_removeClient_31  (k31 : Nat → Int32 → AH → Option (Int32 × AH)) (r0 : Nat) (v2 : Int32) : AH → Option (Int32 × AH) := fun h =>
  cv 9 r0 (fX9_clientMany r0) h fun x_23 h =>
  bd (fX9_client (x_23 - (nI 1)) h) fun x_24 h =>
  if x_24 ≤ v2 then (
    (gP 9 r0 0 h).bind fun a_25 =>
    (ldI a_25 (nI 962) h).bind fun x_26 =>
    (stI a_25 (nI 962) (x_26 - (nI 1)) h).bind fun h =>
    cv 9 r0 (fX9_clientMany r0) h fun x_27 h =>
    some (x_27, h))
  else
  (gP 9 r0 0 h).bind fun a_28 =>
  (gP 9 r0 0 h).bind fun a_29 =>
  (ldI a_29 (v2 + (nI 16)) h).bind fun x_30 =>
  (stI a_28 v2 x_30 h).bind fun h =>
  k31 r0 (v2 + (nI 1)) h
def lX9_removeClient_31  : Nat → Nat → Int32 → AH → Option (Int32 × AH)
  | 0 => fun _ _ _ => none
  | n + 1 => bX9_removeClient_31 (lX9_removeClient_31 n)
def fX9_removeClient_14  (r0 : Nat) (v1 : Int32) (s0 : Nat) (s1 : Int32) : AH → Option (Int32 × AH) := fun h =>
  cv 9 s0 (fX9_refused s0 s1) h fun x_31 h =>
  if x_31 = 0 then (
    cv 9 r0 (fX9_saves r0) h fun _ h =>
    bd (fX9_client v1 h) fun x_32 h =>
    lX9_removeClient_31 fuel r0 x_32 h)
  else
  some ((nI 0), h)
def fX9_removeClient  (r0 : Nat) (v1 : Int32) : AH → Option (Int32 × AH) := fun h =>
  cv 9 r0 (fX9_isClient r0 v1) h fun x_33 h =>
  if x_33 = 0 then (
    fX9_removeClient_14 r0 v1 r0 (nI 1) h)
  else
  fX9_removeClient_14 r0 v1 r0 (nI 0) h
theorem sbX9_removeClient_31  {k31 : Nat → Int32 → AH → Option (Int32 × AH)} (h31 : ∀ (r0 : Nat) (v2 : Int32), Sm mX9_removeClient rI 0 0 31 [some (.ref r0), none, some (.int v2)] [] (k31 r0 v2)) (r0 : Nat) (v2 : Int32) : Sm mX9_removeClient rI 0 0 31 [some (.ref r0), none, some (.int v2)] [] (bX9_removeClient_31 k31 r0 v2) := by
  unfold bX9_removeClient_31
  refine S_iload_n (pc := 31) dX9_removeClient_31 rfl ?_
  refine S_aload_n (pc := 32) dX9_removeClient_32 rfl ?_
  refine Y_Vi (pc := 33) (st := [.int v2]) (kc' := 0) (ks' := 0) (ktX9_clientMany r0) mw_X9_clientMany mv_X9_clientMany w1334 (RO.mk rfl rfl rfl rfl) rfl rfl rfl dX9_removeClient_33 ⟨rfl, rfl⟩ (fun x_23 => ?_)
  refine S_iconst (pc := 36) (v := (nI 1)) dX9_removeClient_36 kI_1 ?_
  refine S_isub (pc := 37) dX9_removeClient_37 ?_
  refine Y_Ti (pc := 38) (st := [.int v2]) (kc' := 0) (ks' := 0) (ktX9_client (x_23 - (nI 1))) mw_X9_client w1343 w1342 (RO.mk rfl rfl rfl rfl) rfl rfl rfl dX9_removeClient_38 ⟨rfl, rfl⟩ (fun x_24 => ?_)
  refine S_icmpge (pc := 41) (tgt := 65) dX9_removeClient_41 (by decide) ?_ ?_
  · refine S_aload_n (pc := 65) dX9_removeClient_65 rfl ?_
    refine S_gP (pc := 66) fl_X9_7 rfl dX9_removeClient_66 (fun a_25 => ?_)
    refine S_sipush (pc := 69) (v := (nI 962)) dX9_removeClient_69 kS_962 ?_
    refine S_dup2 (pc := 72) rfl rfl dX9_removeClient_72 ?_
    refine S_ldI (pc := 73) dX9_removeClient_73 (fun x_26 => ?_)
    refine S_iconst (pc := 74) (v := (nI 1)) dX9_removeClient_74 kI_1 ?_
    refine S_isub (pc := 75) dX9_removeClient_75 ?_
    refine S_stI (pc := 76) dX9_removeClient_76 ?_
    refine S_aload_n (pc := 77) dX9_removeClient_77 rfl ?_
    refine Y_Vi (pc := 78) (st := []) (kc' := 0) (ks' := 0) (ktX9_clientMany r0) mw_X9_clientMany mv_X9_clientMany w1334 (RO.mk rfl rfl rfl rfl) rfl rfl rfl dX9_removeClient_78 ⟨rfl, rfl⟩ (fun x_27 => ?_)
    exact S_iret (pc := 81) ⟨rfl, rfl⟩ rfl rfl dX9_removeClient_81
  · refine S_aload_n (pc := 44) dX9_removeClient_44 rfl ?_
    refine S_gP (pc := 45) fl_X9_7 rfl dX9_removeClient_45 (fun a_28 => ?_)
    refine S_iload_n (pc := 48) dX9_removeClient_48 rfl ?_
    refine S_aload_n (pc := 49) dX9_removeClient_49 rfl ?_
    refine S_gP (pc := 50) fl_X9_7 rfl dX9_removeClient_50 (fun a_29 => ?_)
    refine S_iload_n (pc := 53) dX9_removeClient_53 rfl ?_
    refine S_bipush (pc := 54) (v := (nI 16)) dX9_removeClient_54 kB_16 ?_
    refine S_iadd (pc := 56) dX9_removeClient_56 ?_
    refine S_ldI (pc := 57) dX9_removeClient_57 (fun x_30 => ?_)
    refine S_stI (pc := 58) dX9_removeClient_58 ?_
    refine Z_iinc (pc := 59) (v := (nI 1)) (lv' := [some (.ref r0), none, some (.int (v2 + (nI 1)))]) dX9_removeClient_59 rfl kI_1 rfl rfl rfl ?_
    refine S_goto (pc := 62) (tgt := 31) dX9_removeClient_62 (by decide) ?_
    exact (h31 r0 (v2 + (nI 1)))
theorem sX9_removeClient_31  : ∀ (n : Nat) (r0 : Nat) (v2 : Int32), Sm mX9_removeClient rI 0 0 31 [some (.ref r0), none, some (.int v2)] [] (lX9_removeClient_31 n r0 v2)
  | 0, _, _ => S_none
  | n + 1, r0, v2 => sbX9_removeClient_31 (sX9_removeClient_31 n) r0 v2
theorem sX9_removeClient_14  (r0 : Nat) (v1 : Int32) (s0 : Nat) (s1 : Int32) : Sm mX9_removeClient rI 0 0 14 [some (.ref r0), some (.int v1), none] [.int s1, .ref s0] (fX9_removeClient_14 r0 v1 s0 s1) := by
  unfold fX9_removeClient_14
  refine Y_Vi (pc := 14) (st := []) (kc' := 0) (ks' := 0) (ktX9_refused s0 s1) mw_X9_refused mv_X9_refused w1415 (RO.mk rfl rfl rfl rfl) rfl rfl rfl dX9_removeClient_14 ⟨rfl, rfl⟩ (fun x_31 => ?_)
  refine S_ifeq (pc := 17) (tgt := 22) dX9_removeClient_17 (by decide) ?_ ?_
  · refine S_aload_n (pc := 22) dX9_removeClient_22 rfl ?_
    refine Y_Vv (pc := 23) (st := []) (kc' := 0) (ks' := 0) (ktX9_saves r0) mw_X9_saves mv_X9_saves w1431 (RO.mk rfl rfl rfl rfl) rfl rfl rfl dX9_removeClient_23 ⟨rfl, rfl⟩ ?_
    refine S_iload_n (pc := 26) dX9_removeClient_26 rfl ?_
    refine Y_Ti (pc := 27) (st := []) (kc' := 0) (ks' := 0) (ktX9_client v1) mw_X9_client w1343 w1342 (RO.mk rfl rfl rfl rfl) rfl rfl rfl dX9_removeClient_27 ⟨rfl, rfl⟩ (fun x_32 => ?_)
    refine Z_istore_n (pc := 30) (lv' := [some (.ref r0), some (.int v1), some (.int x_32)]) dX9_removeClient_30 rfl rfl rfl ?_
    exact (S_lv (lv0 := [some (.ref r0), none, some (.int x_32)]) (And.intro rfl (And.intro rfl trivial)) (sX9_removeClient_31 fuel r0 x_32))
  · refine S_iconst (pc := 20) (v := (nI 0)) dX9_removeClient_20 kI_0 ?_
    exact S_iret (pc := 21) ⟨rfl, rfl⟩ rfl rfl dX9_removeClient_21
theorem sX9_removeClient  (r0 : Nat) (v1 : Int32) : Sm mX9_removeClient rI 0 0 0 [some (.ref r0), some (.int v1), none] [] (fX9_removeClient r0 v1) := by
  unfold fX9_removeClient
  refine S_aload_n (pc := 0) dX9_removeClient_0 rfl ?_
  refine S_aload_n (pc := 1) dX9_removeClient_1 rfl ?_
  refine S_iload_n (pc := 2) dX9_removeClient_2 rfl ?_
  refine Y_Vi (pc := 3) (st := [.ref r0]) (kc' := 0) (ks' := 0) (ktX9_isClient r0 v1) mw_X9_isClient mv_X9_isClient w1581 (RO.mk rfl rfl rfl rfl) rfl rfl rfl dX9_removeClient_3 ⟨rfl, rfl⟩ (fun x_33 => ?_)
  refine S_ifeq (pc := 6) (tgt := 13) dX9_removeClient_6 (by decide) ?_ ?_
  · refine S_iconst (pc := 13) (v := (nI 1)) dX9_removeClient_13 kI_1 ?_
    exact (sX9_removeClient_14 r0 v1 r0 (nI 1))
  · refine S_iconst (pc := 9) (v := (nI 0)) dX9_removeClient_9 kI_0 ?_
    refine S_goto (pc := 10) (tgt := 14) dX9_removeClient_10 (by decide) ?_
    exact (sX9_removeClient_14 r0 v1 r0 (nI 0))
theorem ktX9_removeClient (r0 : Nat) (v1 : Int32) : Ct mX9_removeClient rI [.ref r0, .int v1] (fX9_removeClient r0 v1) := Ct.of (z := 1) pn_X9 rfl rfl rfl (sX9_removeClient r0 v1)
def mX9_removeMember : MI := (yX9_removeMember, cX9_removeMember, 3, (some .int), { frames := 3, cells := 0, slots := 0, locals := 64 }, [])
theorem mw_X9_removeMember : MW mX9_removeMember 2 := ⟨w1513, w11, ⟨by decide, by decide⟩, by decide +kernel⟩
theorem mv_X9_removeMember : MV mX9_removeMember 9 := ⟨_, rfl, w1511, w1512⟩
def fX9_removeMember_15  (r0 : Nat) (v1 : Int32) (v2 : Int32) (s0 : Nat) (s1 : Int32) : AH → Option (Int32 × AH) := fun h =>
  cv 9 s0 (fX9_refused s0 s1) h fun x_7 h =>
  if x_7 = 0 then (
    cv 9 r0 (fX9_saves r0) h fun _ h =>
    cv 9 r0 (fX9_drops r0 v1 v2) h fun _ h =>
    cv 9 r0 (fX9_memberMany r0 v1) h fun x_8 h =>
    some (x_8, h))
  else
  some ((nI 0), h)
def fX9_removeMember  (r0 : Nat) (v1 : Int32) (v2 : Int32) : AH → Option (Int32 × AH) := fun h =>
  cv 9 r0 (fX9_isMember r0 v1 v2) h fun x_9 h =>
  if x_9 = 0 then (
    fX9_removeMember_15 r0 v1 v2 r0 (nI 1) h)
  else
  fX9_removeMember_15 r0 v1 v2 r0 (nI 0) h
theorem sX9_removeMember_15  (r0 : Nat) (v1 : Int32) (v2 : Int32) (s0 : Nat) (s1 : Int32) : Sm mX9_removeMember rI 0 0 15 [some (.ref r0), some (.int v1), some (.int v2)] [.int s1, .ref s0] (fX9_removeMember_15 r0 v1 v2 s0 s1) := by
  unfold fX9_removeMember_15
  refine Y_Vi (pc := 15) (st := []) (kc' := 0) (ks' := 0) (ktX9_refused s0 s1) mw_X9_refused mv_X9_refused w1415 (RO.mk rfl rfl rfl rfl) rfl rfl rfl dX9_removeMember_15 ⟨rfl, rfl⟩ (fun x_7 => ?_)
  refine S_ifeq (pc := 18) (tgt := 23) dX9_removeMember_18 (by decide) ?_ ?_
  · refine S_aload_n (pc := 23) dX9_removeMember_23 rfl ?_
    refine Y_Vv (pc := 24) (st := []) (kc' := 0) (ks' := 0) (ktX9_saves r0) mw_X9_saves mv_X9_saves w1431 (RO.mk rfl rfl rfl rfl) rfl rfl rfl dX9_removeMember_24 ⟨rfl, rfl⟩ ?_
    refine S_aload_n (pc := 27) dX9_removeMember_27 rfl ?_
    refine S_iload_n (pc := 28) dX9_removeMember_28 rfl ?_
    refine S_iload_n (pc := 29) dX9_removeMember_29 rfl ?_
    refine Y_Vv (pc := 30) (st := []) (kc' := 0) (ks' := 0) (ktX9_drops r0 v1 v2) mw_X9_drops mv_X9_drops w1447 (RO.mk rfl rfl rfl rfl) rfl rfl rfl dX9_removeMember_30 ⟨rfl, rfl⟩ ?_
    refine S_aload_n (pc := 33) dX9_removeMember_33 rfl ?_
    refine S_iload_n (pc := 34) dX9_removeMember_34 rfl ?_
    refine Y_Vi (pc := 35) (st := []) (kc' := 0) (ks' := 0) (ktX9_memberMany r0 v1) mw_X9_memberMany mv_X9_memberMany w1186 (RO.mk rfl rfl rfl rfl) rfl rfl rfl dX9_removeMember_35 ⟨rfl, rfl⟩ (fun x_8 => ?_)
    exact S_iret (pc := 38) ⟨rfl, rfl⟩ rfl rfl dX9_removeMember_38
  · refine S_iconst (pc := 21) (v := (nI 0)) dX9_removeMember_21 kI_0 ?_
    exact S_iret (pc := 22) ⟨rfl, rfl⟩ rfl rfl dX9_removeMember_22
theorem sX9_removeMember  (r0 : Nat) (v1 : Int32) (v2 : Int32) : Sm mX9_removeMember rI 0 0 0 [some (.ref r0), some (.int v1), some (.int v2)] [] (fX9_removeMember r0 v1 v2) := by
  unfold fX9_removeMember
  refine S_aload_n (pc := 0) dX9_removeMember_0 rfl ?_
  refine S_aload_n (pc := 1) dX9_removeMember_1 rfl ?_
  refine S_iload_n (pc := 2) dX9_removeMember_2 rfl ?_
  refine S_iload_n (pc := 3) dX9_removeMember_3 rfl ?_
  refine Y_Vi (pc := 4) (st := [.ref r0]) (kc' := 0) (ks' := 0) (ktX9_isMember r0 v1 v2) mw_X9_isMember mv_X9_isMember w1514 (RO.mk rfl rfl rfl rfl) rfl rfl rfl dX9_removeMember_4 ⟨rfl, rfl⟩ (fun x_9 => ?_)
  refine S_ifeq (pc := 7) (tgt := 14) dX9_removeMember_7 (by decide) ?_ ?_
  · refine S_iconst (pc := 14) (v := (nI 1)) dX9_removeMember_14 kI_1 ?_
    exact (sX9_removeMember_15 r0 v1 v2 r0 (nI 1))
  · refine S_iconst (pc := 10) (v := (nI 0)) dX9_removeMember_10 kI_0 ?_
    refine S_goto (pc := 11) (tgt := 15) dX9_removeMember_11 (by decide) ?_
    exact (sX9_removeMember_15 r0 v1 v2 r0 (nI 0))
theorem ktX9_removeMember (r0 : Nat) (v1 : Int32) (v2 : Int32) : Ct mX9_removeMember rI [.ref r0, .int v1, .int v2] (fX9_removeMember r0 v1 v2) := Ct.of (z := 0) pn_X9 rfl rfl rfl (sX9_removeMember r0 v1 v2)
def mX9_seeks : MI := (yX9_seeks, cX9_seeks, 8, (some .boolean), { frames := 12, cells := 0, slots := 0, locals := 291 }, [])
theorem mw_X9_seeks : MW mX9_seeks 2 := ⟨w1660, w11, ⟨by decide, by decide⟩, by decide +kernel⟩
theorem mv_X9_seeks : MV mX9_seeks 9 := ⟨_, rfl, w1659, wp102⟩
def fX9_seeks_132 (k2 : Nat → Int32 → Int32 → Int32 → AH → Option (Int32 × AH)) (k11 : Nat → Int32 → Int32 → Int32 → Int32 → AH → Option (Int32 × AH)) (k21 : Nat → Int32 → Int32 → Int32 → Int32 → Int32 → AH → Option (Int32 × AH)) (k40 : Nat → Int32 → Int32 → Int32 → Int32 → Int32 → Int32 → AH → Option (Int32 × AH)) (r0 : Nat) (v1 : Int32) (v2 : Int32) (v3 : Int32) (v4 : Int32) (v5 : Int32) (v6 : Int32) (s0 : Nat) (s1 : Int32) (s2 : Int32) (s3 : Int32) (s4 : Int32) (s5 : Int32) (s6 : Int32) (s7 : Int32) : AH → Option (Int32 × AH) := fun h =>
  cv 9 s0 (fX9_makes s0 s1 s2 s3 s4 s5 s6 s7) h fun _ h =>
  cv 9 r0 (fX9_isSought r0 v1) h fun x_3 h =>
  if x_3 = 0 then (
    k40 r0 v1 v2 v3 v4 v5 (v6 + (nI 1)) h)
  else
  rz (nI 1) (nI 1) h
def fX9_seeks_113 (k2 : Nat → Int32 → Int32 → Int32 → AH → Option (Int32 × AH)) (k11 : Nat → Int32 → Int32 → Int32 → Int32 → AH → Option (Int32 × AH)) (k21 : Nat → Int32 → Int32 → Int32 → Int32 → Int32 → AH → Option (Int32 × AH)) (k40 : Nat → Int32 → Int32 → Int32 → Int32 → Int32 → Int32 → AH → Option (Int32 × AH)) (r0 : Nat) (v1 : Int32) (v2 : Int32) (v3 : Int32) (v4 : Int32) (v5 : Int32) (v6 : Int32) (v7 : Int32) (s0 : Nat) (s1 : Int32) (s2 : Int32) (s3 : Int32) (s4 : Int32) (s5 : Int32) (s6 : Int32) : AH → Option (Int32 × AH) := fun h =>
  if (nI 12) ≤ v6 then (
    fX9_seeks_132 k2 k11 k21 k40 r0 v1 v2 v3 v4 v5 v6 s0 s1 s2 s3 s4 s5 s6 ((v7 - v7 / (nI 11) * (nI 11)) - (nI 1)) h)
  else
  fX9_seeks_132 k2 k11 k21 k40 r0 v1 v2 v3 v4 v5 v6 s0 s1 s2 s3 s4 s5 s6 (-2 : Int32) h
def fX9_seeks_92 (k2 : Nat → Int32 → Int32 → Int32 → AH → Option (Int32 × AH)) (k11 : Nat → Int32 → Int32 → Int32 → Int32 → AH → Option (Int32 × AH)) (k21 : Nat → Int32 → Int32 → Int32 → Int32 → Int32 → AH → Option (Int32 × AH)) (k40 : Nat → Int32 → Int32 → Int32 → Int32 → Int32 → Int32 → AH → Option (Int32 × AH)) (r0 : Nat) (v1 : Int32) (v2 : Int32) (v3 : Int32) (v4 : Int32) (v5 : Int32) (v6 : Int32) (v7 : Int32) (s0 : Nat) (s1 : Int32) (s2 : Int32) (s3 : Int32) (s4 : Int32) (s5 : Int32) : AH → Option (Int32 × AH) := fun h =>
  if (nI 12) ≤ v6 then (
    fX9_seeks_113 k2 k11 k21 k40 r0 v1 v2 v3 v4 v5 v6 v7 s0 s1 s2 s3 s4 s5 ((v7 / (nI 11)) - (nI 1)) h)
  else
  fX9_seeks_113 k2 k11 k21 k40 r0 v1 v2 v3 v4 v5 v6 v7 s0 s1 s2 s3 s4 s5 (v6 - (nI 2)) h
def fX9_seeks_54 (k2 : Nat → Int32 → Int32 → Int32 → AH → Option (Int32 × AH)) (k11 : Nat → Int32 → Int32 → Int32 → Int32 → AH → Option (Int32 × AH)) (k21 : Nat → Int32 → Int32 → Int32 → Int32 → Int32 → AH → Option (Int32 × AH)) (k40 : Nat → Int32 → Int32 → Int32 → Int32 → Int32 → Int32 → AH → Option (Int32 × AH)) (r0 : Nat) (v1 : Int32) (v2 : Int32) (v3 : Int32) (v4 : Int32) (v5 : Int32) (v6 : Int32) (s0 : Int32) (s1 : Int32) : AH → Option (Int32 × AH) := fun h =>
  if s1 ≤ s0 then (
    k21 r0 v1 v2 v3 v4 (v5 + (nI 1)) h)
  else
  if v6 = 0 then (
    fX9_seeks_92 k2 k11 k21 k40 r0 v1 v2 v3 v4 v5 v6 (v6 - (nI 12)) r0 v3 v4 v5 v2 (nI 0) h)
  else
  if (nI 12) ≤ v6 then (
    fX9_seeks_92 k2 k11 k21 k40 r0 v1 v2 v3 v4 v5 v6 (v6 - (nI 12)) r0 v3 v4 v5 v2 (nI 2) h)
  else
  fX9_seeks_92 k2 k11 k21 k40 r0 v1 v2 v3 v4 v5 v6 (v6 - (nI 12)) r0 v3 v4 v5 v2 (nI 1) h
def bX9_seeks_40 (k2 : Nat → Int32 → Int32 → Int32 → AH → Option (Int32 × AH)) (k11 : Nat → Int32 → Int32 → Int32 → Int32 → AH → Option (Int32 × AH)) (k21 : Nat → Int32 → Int32 → Int32 → Int32 → Int32 → AH → Option (Int32 × AH)) (k40 : Nat → Int32 → Int32 → Int32 → Int32 → Int32 → Int32 → AH → Option (Int32 × AH)) (r0 : Nat) (v1 : Int32) (v2 : Int32) (v3 : Int32) (v4 : Int32) (v5 : Int32) (v6 : Int32) : AH → Option (Int32 × AH) := fun h =>
  if v3 = (nI 2) then (
    fX9_seeks_54 k2 k11 k21 k40 r0 v1 v2 v3 v4 v5 v6 v6 (nI 133) h)
  else
  fX9_seeks_54 k2 k11 k21 k40 r0 v1 v2 v3 v4 v5 v6 v6 (nI 1) h
def lX9_seeks_40 (k2 : Nat → Int32 → Int32 → Int32 → AH → Option (Int32 × AH)) (k11 : Nat → Int32 → Int32 → Int32 → Int32 → AH → Option (Int32 × AH)) (k21 : Nat → Int32 → Int32 → Int32 → Int32 → Int32 → AH → Option (Int32 × AH)) : Nat → Nat → Int32 → Int32 → Int32 → Int32 → Int32 → Int32 → AH → Option (Int32 × AH)
  | 0 => fun _ _ _ _ _ _ _ _ => none
  | n + 1 => bX9_seeks_40 k2 k11 k21 (lX9_seeks_40 k2 k11 k21 n)
def fX9_seeks_34 (k2 : Nat → Int32 → Int32 → Int32 → AH → Option (Int32 × AH)) (k11 : Nat → Int32 → Int32 → Int32 → Int32 → AH → Option (Int32 × AH)) (k21 : Nat → Int32 → Int32 → Int32 → Int32 → Int32 → AH → Option (Int32 × AH)) (r0 : Nat) (v1 : Int32) (v2 : Int32) (v3 : Int32) (v4 : Int32) (v5 : Int32) (s0 : Int32) (s1 : Int32) : AH → Option (Int32 × AH) := fun h =>
  if s1 ≤ s0 then (
    k11 r0 v1 v2 v3 (v4 + (nI 1)) h)
  else
  lX9_seeks_40 k2 k11 k21 fuel r0 v1 v2 v3 v4 v5 (nI 0) h
def bX9_seeks_21 (k2 : Nat → Int32 → Int32 → Int32 → AH → Option (Int32 × AH)) (k11 : Nat → Int32 → Int32 → Int32 → Int32 → AH → Option (Int32 × AH)) (k21 : Nat → Int32 → Int32 → Int32 → Int32 → Int32 → AH → Option (Int32 × AH)) (r0 : Nat) (v1 : Int32) (v2 : Int32) (v3 : Int32) (v4 : Int32) (v5 : Int32) : AH → Option (Int32 × AH) := fun h =>
  if (nI 3) ≤ v3 then (
    fX9_seeks_34 k2 k11 k21 r0 v1 v2 v3 v4 v5 v5 (nI 1) h)
  else
  fX9_seeks_34 k2 k11 k21 r0 v1 v2 v3 v4 v5 v5 (nI 8) h
def lX9_seeks_21 (k2 : Nat → Int32 → Int32 → Int32 → AH → Option (Int32 × AH)) (k11 : Nat → Int32 → Int32 → Int32 → Int32 → AH → Option (Int32 × AH)) : Nat → Nat → Int32 → Int32 → Int32 → Int32 → Int32 → AH → Option (Int32 × AH)
  | 0 => fun _ _ _ _ _ _ _ => none
  | n + 1 => bX9_seeks_21 k2 k11 (lX9_seeks_21 k2 k11 n)
def bX9_seeks_11 (k2 : Nat → Int32 → Int32 → Int32 → AH → Option (Int32 × AH)) (k11 : Nat → Int32 → Int32 → Int32 → Int32 → AH → Option (Int32 × AH)) (r0 : Nat) (v1 : Int32) (v2 : Int32) (v3 : Int32) (v4 : Int32) : AH → Option (Int32 × AH) := fun h =>
  if (nI 10) ≤ v4 then (
    k2 r0 v1 v2 (v3 + (nI 1)) h)
  else
  lX9_seeks_21 k2 k11 fuel r0 v1 v2 v3 v4 (nI 0) h
def lX9_seeks_11 (k2 : Nat → Int32 → Int32 → Int32 → AH → Option (Int32 × AH)) : Nat → Nat → Int32 → Int32 → Int32 → Int32 → AH → Option (Int32 × AH)
  | 0 => fun _ _ _ _ _ _ => none
  | n + 1 => bX9_seeks_11 k2 (lX9_seeks_11 k2 n)
def bX9_seeks_2  (k2 : Nat → Int32 → Int32 → Int32 → AH → Option (Int32 × AH)) (r0 : Nat) (v1 : Int32) (v2 : Int32) (v3 : Int32) : AH → Option (Int32 × AH) := fun h =>
  if (nI 6) ≤ v3 then (
    rz (nI 0) (nI 0) h)
  else
  lX9_seeks_11 k2 fuel r0 v1 v2 v3 (nI 0) h
def lX9_seeks_2  : Nat → Nat → Int32 → Int32 → Int32 → AH → Option (Int32 × AH)
  | 0 => fun _ _ _ _ _ => none
  | n + 1 => bX9_seeks_2 (lX9_seeks_2 n)
def fX9_seeks  (r0 : Nat) (v1 : Int32) (v2 : Int32) : AH → Option (Int32 × AH) := fun h =>
  lX9_seeks_2 fuel r0 v1 v2 (nI 0) h
theorem sX9_seeks_132 {k2 : Nat → Int32 → Int32 → Int32 → AH → Option (Int32 × AH)} (h2 : ∀ (r0 : Nat) (v1 : Int32) (v2 : Int32) (v3 : Int32), Sm mX9_seeks rI 0 0 2 [some (.ref r0), some (.int v1), some (.int v2), some (.int v3), none, none, none, none] [] (k2 r0 v1 v2 v3)) {k11 : Nat → Int32 → Int32 → Int32 → Int32 → AH → Option (Int32 × AH)} (h11 : ∀ (r0 : Nat) (v1 : Int32) (v2 : Int32) (v3 : Int32) (v4 : Int32), Sm mX9_seeks rI 0 0 11 [some (.ref r0), some (.int v1), some (.int v2), some (.int v3), some (.int v4), none, none, none] [] (k11 r0 v1 v2 v3 v4)) {k21 : Nat → Int32 → Int32 → Int32 → Int32 → Int32 → AH → Option (Int32 × AH)} (h21 : ∀ (r0 : Nat) (v1 : Int32) (v2 : Int32) (v3 : Int32) (v4 : Int32) (v5 : Int32), Sm mX9_seeks rI 0 0 21 [some (.ref r0), some (.int v1), some (.int v2), some (.int v3), some (.int v4), some (.int v5), none, none] [] (k21 r0 v1 v2 v3 v4 v5)) {k40 : Nat → Int32 → Int32 → Int32 → Int32 → Int32 → Int32 → AH → Option (Int32 × AH)} (h40 : ∀ (r0 : Nat) (v1 : Int32) (v2 : Int32) (v3 : Int32) (v4 : Int32) (v5 : Int32) (v6 : Int32), Sm mX9_seeks rI 0 0 40 [some (.ref r0), some (.int v1), some (.int v2), some (.int v3), some (.int v4), some (.int v5), some (.int v6), none] [] (k40 r0 v1 v2 v3 v4 v5 v6)) (r0 : Nat) (v1 : Int32) (v2 : Int32) (v3 : Int32) (v4 : Int32) (v5 : Int32) (v6 : Int32) (s0 : Nat) (s1 : Int32) (s2 : Int32) (s3 : Int32) (s4 : Int32) (s5 : Int32) (s6 : Int32) (s7 : Int32) : Sm mX9_seeks rI 0 0 132 [some (.ref r0), some (.int v1), some (.int v2), some (.int v3), some (.int v4), some (.int v5), some (.int v6), none] [.int s7, .int s6, .int s5, .int s4, .int s3, .int s2, .int s1, .ref s0] (fX9_seeks_132 k2 k11 k21 k40 r0 v1 v2 v3 v4 v5 v6 s0 s1 s2 s3 s4 s5 s6 s7) := by
  unfold fX9_seeks_132
  refine Y_Vv (pc := 132) (st := []) (kc' := 0) (ks' := 0) (ktX9_makes s0 s1 s2 s3 s4 s5 s6 s7) mw_X9_makes mv_X9_makes w1197 (RO.mk rfl rfl rfl rfl) rfl rfl rfl dX9_seeks_132 ⟨rfl, rfl⟩ ?_
  refine S_aload_n (pc := 135) dX9_seeks_135 rfl ?_
  refine S_iload_n (pc := 136) dX9_seeks_136 rfl ?_
  refine Y_Vi (pc := 137) (st := []) (kc' := 0) (ks' := 0) (ktX9_isSought r0 v1) mw_X9_isSought mv_X9_isSought w1661 (RO.mk rfl rfl rfl rfl) rfl rfl rfl dX9_seeks_137 ⟨rfl, rfl⟩ (fun x_3 => ?_)
  refine S_ifeq (pc := 140) (tgt := 145) dX9_seeks_140 (by decide) ?_ ?_
  · refine Z_iinc (pc := 145) (v := (nI 1)) (lv' := [some (.ref r0), some (.int v1), some (.int v2), some (.int v3), some (.int v4), some (.int v5), some (.int (v6 + (nI 1))), none]) dX9_seeks_145 rfl kI_1 rfl rfl rfl ?_
    refine S_goto (pc := 148) (tgt := 40) dX9_seeks_148 (by decide) ?_
    exact (h40 r0 v1 v2 v3 v4 v5 (v6 + (nI 1)))
  · refine S_iconst (pc := 143) (v := (nI 1)) dX9_seeks_143 kI_1 ?_
    exact S_zret (pc := 144) ⟨rfl, rfl⟩ rfl rfl dX9_seeks_144
theorem sX9_seeks_113 {k2 : Nat → Int32 → Int32 → Int32 → AH → Option (Int32 × AH)} (h2 : ∀ (r0 : Nat) (v1 : Int32) (v2 : Int32) (v3 : Int32), Sm mX9_seeks rI 0 0 2 [some (.ref r0), some (.int v1), some (.int v2), some (.int v3), none, none, none, none] [] (k2 r0 v1 v2 v3)) {k11 : Nat → Int32 → Int32 → Int32 → Int32 → AH → Option (Int32 × AH)} (h11 : ∀ (r0 : Nat) (v1 : Int32) (v2 : Int32) (v3 : Int32) (v4 : Int32), Sm mX9_seeks rI 0 0 11 [some (.ref r0), some (.int v1), some (.int v2), some (.int v3), some (.int v4), none, none, none] [] (k11 r0 v1 v2 v3 v4)) {k21 : Nat → Int32 → Int32 → Int32 → Int32 → Int32 → AH → Option (Int32 × AH)} (h21 : ∀ (r0 : Nat) (v1 : Int32) (v2 : Int32) (v3 : Int32) (v4 : Int32) (v5 : Int32), Sm mX9_seeks rI 0 0 21 [some (.ref r0), some (.int v1), some (.int v2), some (.int v3), some (.int v4), some (.int v5), none, none] [] (k21 r0 v1 v2 v3 v4 v5)) {k40 : Nat → Int32 → Int32 → Int32 → Int32 → Int32 → Int32 → AH → Option (Int32 × AH)} (h40 : ∀ (r0 : Nat) (v1 : Int32) (v2 : Int32) (v3 : Int32) (v4 : Int32) (v5 : Int32) (v6 : Int32), Sm mX9_seeks rI 0 0 40 [some (.ref r0), some (.int v1), some (.int v2), some (.int v3), some (.int v4), some (.int v5), some (.int v6), none] [] (k40 r0 v1 v2 v3 v4 v5 v6)) (r0 : Nat) (v1 : Int32) (v2 : Int32) (v3 : Int32) (v4 : Int32) (v5 : Int32) (v6 : Int32) (v7 : Int32) (s0 : Nat) (s1 : Int32) (s2 : Int32) (s3 : Int32) (s4 : Int32) (s5 : Int32) (s6 : Int32) : Sm mX9_seeks rI 0 0 113 [some (.ref r0), some (.int v1), some (.int v2), some (.int v3), some (.int v4), some (.int v5), some (.int v6), some (.int v7)] [.int s6, .int s5, .int s4, .int s3, .int s2, .int s1, .ref s0] (fX9_seeks_113 k2 k11 k21 k40 r0 v1 v2 v3 v4 v5 v6 v7 s0 s1 s2 s3 s4 s5 s6) := by
  unfold fX9_seeks_113
  refine S_iload (pc := 113) dX9_seeks_113 rfl ?_
  refine S_bipush (pc := 115) (v := (nI 12)) dX9_seeks_115 kB_12 ?_
  refine S_icmpge (pc := 117) (tgt := 125) dX9_seeks_117 (by decide) ?_ ?_
  · refine S_iload (pc := 125) dX9_seeks_125 rfl ?_
    refine S_bipush (pc := 127) (v := (nI 11)) dX9_seeks_127 kB_11 ?_
    refine S_irem (pc := 129) (by decide) dX9_seeks_129 ?_
    refine S_iconst (pc := 130) (v := (nI 1)) dX9_seeks_130 kI_1 ?_
    refine S_isub (pc := 131) dX9_seeks_131 ?_
    exact (S_lv (lv0 := [some (.ref r0), some (.int v1), some (.int v2), some (.int v3), some (.int v4), some (.int v5), some (.int v6), none]) (And.intro rfl (And.intro rfl (And.intro rfl (And.intro rfl (And.intro rfl (And.intro rfl (And.intro rfl trivial))))))) (sX9_seeks_132 h2 h11 h21 h40 r0 v1 v2 v3 v4 v5 v6 s0 s1 s2 s3 s4 s5 s6 ((v7 - v7 / (nI 11) * (nI 11)) - (nI 1))))
  · refine S_bipush (pc := 120) (v := (-2 : Int32)) dX9_seeks_120 kB_m2 ?_
    refine S_goto (pc := 122) (tgt := 132) dX9_seeks_122 (by decide) ?_
    exact (S_lv (lv0 := [some (.ref r0), some (.int v1), some (.int v2), some (.int v3), some (.int v4), some (.int v5), some (.int v6), none]) (And.intro rfl (And.intro rfl (And.intro rfl (And.intro rfl (And.intro rfl (And.intro rfl (And.intro rfl trivial))))))) (sX9_seeks_132 h2 h11 h21 h40 r0 v1 v2 v3 v4 v5 v6 s0 s1 s2 s3 s4 s5 s6 (-2 : Int32)))
theorem sX9_seeks_92 {k2 : Nat → Int32 → Int32 → Int32 → AH → Option (Int32 × AH)} (h2 : ∀ (r0 : Nat) (v1 : Int32) (v2 : Int32) (v3 : Int32), Sm mX9_seeks rI 0 0 2 [some (.ref r0), some (.int v1), some (.int v2), some (.int v3), none, none, none, none] [] (k2 r0 v1 v2 v3)) {k11 : Nat → Int32 → Int32 → Int32 → Int32 → AH → Option (Int32 × AH)} (h11 : ∀ (r0 : Nat) (v1 : Int32) (v2 : Int32) (v3 : Int32) (v4 : Int32), Sm mX9_seeks rI 0 0 11 [some (.ref r0), some (.int v1), some (.int v2), some (.int v3), some (.int v4), none, none, none] [] (k11 r0 v1 v2 v3 v4)) {k21 : Nat → Int32 → Int32 → Int32 → Int32 → Int32 → AH → Option (Int32 × AH)} (h21 : ∀ (r0 : Nat) (v1 : Int32) (v2 : Int32) (v3 : Int32) (v4 : Int32) (v5 : Int32), Sm mX9_seeks rI 0 0 21 [some (.ref r0), some (.int v1), some (.int v2), some (.int v3), some (.int v4), some (.int v5), none, none] [] (k21 r0 v1 v2 v3 v4 v5)) {k40 : Nat → Int32 → Int32 → Int32 → Int32 → Int32 → Int32 → AH → Option (Int32 × AH)} (h40 : ∀ (r0 : Nat) (v1 : Int32) (v2 : Int32) (v3 : Int32) (v4 : Int32) (v5 : Int32) (v6 : Int32), Sm mX9_seeks rI 0 0 40 [some (.ref r0), some (.int v1), some (.int v2), some (.int v3), some (.int v4), some (.int v5), some (.int v6), none] [] (k40 r0 v1 v2 v3 v4 v5 v6)) (r0 : Nat) (v1 : Int32) (v2 : Int32) (v3 : Int32) (v4 : Int32) (v5 : Int32) (v6 : Int32) (v7 : Int32) (s0 : Nat) (s1 : Int32) (s2 : Int32) (s3 : Int32) (s4 : Int32) (s5 : Int32) : Sm mX9_seeks rI 0 0 92 [some (.ref r0), some (.int v1), some (.int v2), some (.int v3), some (.int v4), some (.int v5), some (.int v6), some (.int v7)] [.int s5, .int s4, .int s3, .int s2, .int s1, .ref s0] (fX9_seeks_92 k2 k11 k21 k40 r0 v1 v2 v3 v4 v5 v6 v7 s0 s1 s2 s3 s4 s5) := by
  unfold fX9_seeks_92
  refine S_iload (pc := 92) dX9_seeks_92 rfl ?_
  refine S_bipush (pc := 94) (v := (nI 12)) dX9_seeks_94 kB_12 ?_
  refine S_icmpge (pc := 96) (tgt := 106) dX9_seeks_96 (by decide) ?_ ?_
  · refine S_iload (pc := 106) dX9_seeks_106 rfl ?_
    refine S_bipush (pc := 108) (v := (nI 11)) dX9_seeks_108 kB_11 ?_
    refine S_idiv (pc := 110) (by decide) dX9_seeks_110 ?_
    refine S_iconst (pc := 111) (v := (nI 1)) dX9_seeks_111 kI_1 ?_
    refine S_isub (pc := 112) dX9_seeks_112 ?_
    exact (sX9_seeks_113 h2 h11 h21 h40 r0 v1 v2 v3 v4 v5 v6 v7 s0 s1 s2 s3 s4 s5 ((v7 / (nI 11)) - (nI 1)))
  · refine S_iload (pc := 99) dX9_seeks_99 rfl ?_
    refine S_iconst (pc := 101) (v := (nI 2)) dX9_seeks_101 kI_2 ?_
    refine S_isub (pc := 102) dX9_seeks_102 ?_
    refine S_goto (pc := 103) (tgt := 113) dX9_seeks_103 (by decide) ?_
    exact (sX9_seeks_113 h2 h11 h21 h40 r0 v1 v2 v3 v4 v5 v6 v7 s0 s1 s2 s3 s4 s5 (v6 - (nI 2)))
theorem sX9_seeks_54 {k2 : Nat → Int32 → Int32 → Int32 → AH → Option (Int32 × AH)} (h2 : ∀ (r0 : Nat) (v1 : Int32) (v2 : Int32) (v3 : Int32), Sm mX9_seeks rI 0 0 2 [some (.ref r0), some (.int v1), some (.int v2), some (.int v3), none, none, none, none] [] (k2 r0 v1 v2 v3)) {k11 : Nat → Int32 → Int32 → Int32 → Int32 → AH → Option (Int32 × AH)} (h11 : ∀ (r0 : Nat) (v1 : Int32) (v2 : Int32) (v3 : Int32) (v4 : Int32), Sm mX9_seeks rI 0 0 11 [some (.ref r0), some (.int v1), some (.int v2), some (.int v3), some (.int v4), none, none, none] [] (k11 r0 v1 v2 v3 v4)) {k21 : Nat → Int32 → Int32 → Int32 → Int32 → Int32 → AH → Option (Int32 × AH)} (h21 : ∀ (r0 : Nat) (v1 : Int32) (v2 : Int32) (v3 : Int32) (v4 : Int32) (v5 : Int32), Sm mX9_seeks rI 0 0 21 [some (.ref r0), some (.int v1), some (.int v2), some (.int v3), some (.int v4), some (.int v5), none, none] [] (k21 r0 v1 v2 v3 v4 v5)) {k40 : Nat → Int32 → Int32 → Int32 → Int32 → Int32 → Int32 → AH → Option (Int32 × AH)} (h40 : ∀ (r0 : Nat) (v1 : Int32) (v2 : Int32) (v3 : Int32) (v4 : Int32) (v5 : Int32) (v6 : Int32), Sm mX9_seeks rI 0 0 40 [some (.ref r0), some (.int v1), some (.int v2), some (.int v3), some (.int v4), some (.int v5), some (.int v6), none] [] (k40 r0 v1 v2 v3 v4 v5 v6)) (r0 : Nat) (v1 : Int32) (v2 : Int32) (v3 : Int32) (v4 : Int32) (v5 : Int32) (v6 : Int32) (s0 : Int32) (s1 : Int32) : Sm mX9_seeks rI 0 0 54 [some (.ref r0), some (.int v1), some (.int v2), some (.int v3), some (.int v4), some (.int v5), some (.int v6), none] [.int s1, .int s0] (fX9_seeks_54 k2 k11 k21 k40 r0 v1 v2 v3 v4 v5 v6 s0 s1) := by
  unfold fX9_seeks_54
  refine S_icmpge (pc := 54) (tgt := 151) dX9_seeks_54 (by decide) ?_ ?_
  · refine Z_iinc (pc := 151) (v := (nI 1)) (lv' := [some (.ref r0), some (.int v1), some (.int v2), some (.int v3), some (.int v4), some (.int (v5 + (nI 1))), some (.int v6), none]) dX9_seeks_151 rfl kI_1 rfl rfl rfl ?_
    refine S_goto (pc := 154) (tgt := 21) dX9_seeks_154 (by decide) ?_
    exact (S_lv (lv0 := [some (.ref r0), some (.int v1), some (.int v2), some (.int v3), some (.int v4), some (.int (v5 + (nI 1))), none, none]) (And.intro rfl (And.intro rfl (And.intro rfl (And.intro rfl (And.intro rfl (And.intro rfl trivial)))))) (h21 r0 v1 v2 v3 v4 (v5 + (nI 1))))
  · refine S_iload (pc := 57) dX9_seeks_57 rfl ?_
    refine S_bipush (pc := 59) (v := (nI 12)) dX9_seeks_59 kB_12 ?_
    refine S_isub (pc := 61) dX9_seeks_61 ?_
    refine Z_istore (pc := 62) (lv' := [some (.ref r0), some (.int v1), some (.int v2), some (.int v3), some (.int v4), some (.int v5), some (.int v6), some (.int (v6 - (nI 12)))]) dX9_seeks_62 rfl rfl rfl ?_
    refine S_aload_n (pc := 64) dX9_seeks_64 rfl ?_
    refine S_iload_n (pc := 65) dX9_seeks_65 rfl ?_
    refine S_iload (pc := 66) dX9_seeks_66 rfl ?_
    refine S_iload (pc := 68) dX9_seeks_68 rfl ?_
    refine S_iload_n (pc := 70) dX9_seeks_70 rfl ?_
    refine S_iload (pc := 71) dX9_seeks_71 rfl ?_
    refine S_ifne (pc := 73) (tgt := 80) dX9_seeks_73 (by decide) ?_ ?_
    · refine S_iload (pc := 80) dX9_seeks_80 rfl ?_
      refine S_bipush (pc := 82) (v := (nI 12)) dX9_seeks_82 kB_12 ?_
      refine S_icmpge (pc := 84) (tgt := 91) dX9_seeks_84 (by decide) ?_ ?_
      · refine S_iconst (pc := 91) (v := (nI 2)) dX9_seeks_91 kI_2 ?_
        exact (sX9_seeks_92 h2 h11 h21 h40 r0 v1 v2 v3 v4 v5 v6 (v6 - (nI 12)) r0 v3 v4 v5 v2 (nI 2))
      · refine S_iconst (pc := 87) (v := (nI 1)) dX9_seeks_87 kI_1 ?_
        refine S_goto (pc := 88) (tgt := 92) dX9_seeks_88 (by decide) ?_
        exact (sX9_seeks_92 h2 h11 h21 h40 r0 v1 v2 v3 v4 v5 v6 (v6 - (nI 12)) r0 v3 v4 v5 v2 (nI 1))
    · refine S_iconst (pc := 76) (v := (nI 0)) dX9_seeks_76 kI_0 ?_
      refine S_goto (pc := 77) (tgt := 92) dX9_seeks_77 (by decide) ?_
      exact (sX9_seeks_92 h2 h11 h21 h40 r0 v1 v2 v3 v4 v5 v6 (v6 - (nI 12)) r0 v3 v4 v5 v2 (nI 0))
theorem sbX9_seeks_40 {k2 : Nat → Int32 → Int32 → Int32 → AH → Option (Int32 × AH)} (h2 : ∀ (r0 : Nat) (v1 : Int32) (v2 : Int32) (v3 : Int32), Sm mX9_seeks rI 0 0 2 [some (.ref r0), some (.int v1), some (.int v2), some (.int v3), none, none, none, none] [] (k2 r0 v1 v2 v3)) {k11 : Nat → Int32 → Int32 → Int32 → Int32 → AH → Option (Int32 × AH)} (h11 : ∀ (r0 : Nat) (v1 : Int32) (v2 : Int32) (v3 : Int32) (v4 : Int32), Sm mX9_seeks rI 0 0 11 [some (.ref r0), some (.int v1), some (.int v2), some (.int v3), some (.int v4), none, none, none] [] (k11 r0 v1 v2 v3 v4)) {k21 : Nat → Int32 → Int32 → Int32 → Int32 → Int32 → AH → Option (Int32 × AH)} (h21 : ∀ (r0 : Nat) (v1 : Int32) (v2 : Int32) (v3 : Int32) (v4 : Int32) (v5 : Int32), Sm mX9_seeks rI 0 0 21 [some (.ref r0), some (.int v1), some (.int v2), some (.int v3), some (.int v4), some (.int v5), none, none] [] (k21 r0 v1 v2 v3 v4 v5)) {k40 : Nat → Int32 → Int32 → Int32 → Int32 → Int32 → Int32 → AH → Option (Int32 × AH)} (h40 : ∀ (r0 : Nat) (v1 : Int32) (v2 : Int32) (v3 : Int32) (v4 : Int32) (v5 : Int32) (v6 : Int32), Sm mX9_seeks rI 0 0 40 [some (.ref r0), some (.int v1), some (.int v2), some (.int v3), some (.int v4), some (.int v5), some (.int v6), none] [] (k40 r0 v1 v2 v3 v4 v5 v6)) (r0 : Nat) (v1 : Int32) (v2 : Int32) (v3 : Int32) (v4 : Int32) (v5 : Int32) (v6 : Int32) : Sm mX9_seeks rI 0 0 40 [some (.ref r0), some (.int v1), some (.int v2), some (.int v3), some (.int v4), some (.int v5), some (.int v6), none] [] (bX9_seeks_40 k2 k11 k21 k40 r0 v1 v2 v3 v4 v5 v6) := by
  unfold bX9_seeks_40
  refine S_iload (pc := 40) dX9_seeks_40 rfl ?_
  refine S_iload_n (pc := 42) dX9_seeks_42 rfl ?_
  refine S_iconst (pc := 43) (v := (nI 2)) dX9_seeks_43 kI_2 ?_
  refine S_icmpne (pc := 44) (tgt := 53) dX9_seeks_44 (by decide) ?_ ?_
  · refine S_iconst (pc := 53) (v := (nI 1)) dX9_seeks_53 kI_1 ?_
    exact (sX9_seeks_54 h2 h11 h21 h40 r0 v1 v2 v3 v4 v5 v6 v6 (nI 1))
  · refine S_sipush (pc := 47) (v := (nI 133)) dX9_seeks_47 kS_133 ?_
    refine S_goto (pc := 50) (tgt := 54) dX9_seeks_50 (by decide) ?_
    exact (sX9_seeks_54 h2 h11 h21 h40 r0 v1 v2 v3 v4 v5 v6 v6 (nI 133))
theorem sX9_seeks_40 {k2 : Nat → Int32 → Int32 → Int32 → AH → Option (Int32 × AH)} (h2 : ∀ (r0 : Nat) (v1 : Int32) (v2 : Int32) (v3 : Int32), Sm mX9_seeks rI 0 0 2 [some (.ref r0), some (.int v1), some (.int v2), some (.int v3), none, none, none, none] [] (k2 r0 v1 v2 v3)) {k11 : Nat → Int32 → Int32 → Int32 → Int32 → AH → Option (Int32 × AH)} (h11 : ∀ (r0 : Nat) (v1 : Int32) (v2 : Int32) (v3 : Int32) (v4 : Int32), Sm mX9_seeks rI 0 0 11 [some (.ref r0), some (.int v1), some (.int v2), some (.int v3), some (.int v4), none, none, none] [] (k11 r0 v1 v2 v3 v4)) {k21 : Nat → Int32 → Int32 → Int32 → Int32 → Int32 → AH → Option (Int32 × AH)} (h21 : ∀ (r0 : Nat) (v1 : Int32) (v2 : Int32) (v3 : Int32) (v4 : Int32) (v5 : Int32), Sm mX9_seeks rI 0 0 21 [some (.ref r0), some (.int v1), some (.int v2), some (.int v3), some (.int v4), some (.int v5), none, none] [] (k21 r0 v1 v2 v3 v4 v5)) : ∀ (n : Nat) (r0 : Nat) (v1 : Int32) (v2 : Int32) (v3 : Int32) (v4 : Int32) (v5 : Int32) (v6 : Int32), Sm mX9_seeks rI 0 0 40 [some (.ref r0), some (.int v1), some (.int v2), some (.int v3), some (.int v4), some (.int v5), some (.int v6), none] [] (lX9_seeks_40 k2 k11 k21 n r0 v1 v2 v3 v4 v5 v6)
  | 0, _, _, _, _, _, _, _ => S_none
  | n + 1, r0, v1, v2, v3, v4, v5, v6 => sbX9_seeks_40 h2 h11 h21 (sX9_seeks_40 h2 h11 h21 n) r0 v1 v2 v3 v4 v5 v6
theorem sX9_seeks_34 {k2 : Nat → Int32 → Int32 → Int32 → AH → Option (Int32 × AH)} (h2 : ∀ (r0 : Nat) (v1 : Int32) (v2 : Int32) (v3 : Int32), Sm mX9_seeks rI 0 0 2 [some (.ref r0), some (.int v1), some (.int v2), some (.int v3), none, none, none, none] [] (k2 r0 v1 v2 v3)) {k11 : Nat → Int32 → Int32 → Int32 → Int32 → AH → Option (Int32 × AH)} (h11 : ∀ (r0 : Nat) (v1 : Int32) (v2 : Int32) (v3 : Int32) (v4 : Int32), Sm mX9_seeks rI 0 0 11 [some (.ref r0), some (.int v1), some (.int v2), some (.int v3), some (.int v4), none, none, none] [] (k11 r0 v1 v2 v3 v4)) {k21 : Nat → Int32 → Int32 → Int32 → Int32 → Int32 → AH → Option (Int32 × AH)} (h21 : ∀ (r0 : Nat) (v1 : Int32) (v2 : Int32) (v3 : Int32) (v4 : Int32) (v5 : Int32), Sm mX9_seeks rI 0 0 21 [some (.ref r0), some (.int v1), some (.int v2), some (.int v3), some (.int v4), some (.int v5), none, none] [] (k21 r0 v1 v2 v3 v4 v5)) (r0 : Nat) (v1 : Int32) (v2 : Int32) (v3 : Int32) (v4 : Int32) (v5 : Int32) (s0 : Int32) (s1 : Int32) : Sm mX9_seeks rI 0 0 34 [some (.ref r0), some (.int v1), some (.int v2), some (.int v3), some (.int v4), some (.int v5), none, none] [.int s1, .int s0] (fX9_seeks_34 k2 k11 k21 r0 v1 v2 v3 v4 v5 s0 s1) := by
  unfold fX9_seeks_34
  refine S_icmpge (pc := 34) (tgt := 157) dX9_seeks_34 (by decide) ?_ ?_
  · refine Z_iinc (pc := 157) (v := (nI 1)) (lv' := [some (.ref r0), some (.int v1), some (.int v2), some (.int v3), some (.int (v4 + (nI 1))), some (.int v5), none, none]) dX9_seeks_157 rfl kI_1 rfl rfl rfl ?_
    refine S_goto (pc := 160) (tgt := 11) dX9_seeks_160 (by decide) ?_
    exact (S_lv (lv0 := [some (.ref r0), some (.int v1), some (.int v2), some (.int v3), some (.int (v4 + (nI 1))), none, none, none]) (And.intro rfl (And.intro rfl (And.intro rfl (And.intro rfl (And.intro rfl trivial))))) (h11 r0 v1 v2 v3 (v4 + (nI 1))))
  · refine S_iconst (pc := 37) (v := (nI 0)) dX9_seeks_37 kI_0 ?_
    refine Z_istore (pc := 38) (lv' := [some (.ref r0), some (.int v1), some (.int v2), some (.int v3), some (.int v4), some (.int v5), some (.int (nI 0)), none]) dX9_seeks_38 rfl rfl rfl ?_
    exact (sX9_seeks_40 h2 h11 h21 fuel r0 v1 v2 v3 v4 v5 (nI 0))
theorem sbX9_seeks_21 {k2 : Nat → Int32 → Int32 → Int32 → AH → Option (Int32 × AH)} (h2 : ∀ (r0 : Nat) (v1 : Int32) (v2 : Int32) (v3 : Int32), Sm mX9_seeks rI 0 0 2 [some (.ref r0), some (.int v1), some (.int v2), some (.int v3), none, none, none, none] [] (k2 r0 v1 v2 v3)) {k11 : Nat → Int32 → Int32 → Int32 → Int32 → AH → Option (Int32 × AH)} (h11 : ∀ (r0 : Nat) (v1 : Int32) (v2 : Int32) (v3 : Int32) (v4 : Int32), Sm mX9_seeks rI 0 0 11 [some (.ref r0), some (.int v1), some (.int v2), some (.int v3), some (.int v4), none, none, none] [] (k11 r0 v1 v2 v3 v4)) {k21 : Nat → Int32 → Int32 → Int32 → Int32 → Int32 → AH → Option (Int32 × AH)} (h21 : ∀ (r0 : Nat) (v1 : Int32) (v2 : Int32) (v3 : Int32) (v4 : Int32) (v5 : Int32), Sm mX9_seeks rI 0 0 21 [some (.ref r0), some (.int v1), some (.int v2), some (.int v3), some (.int v4), some (.int v5), none, none] [] (k21 r0 v1 v2 v3 v4 v5)) (r0 : Nat) (v1 : Int32) (v2 : Int32) (v3 : Int32) (v4 : Int32) (v5 : Int32) : Sm mX9_seeks rI 0 0 21 [some (.ref r0), some (.int v1), some (.int v2), some (.int v3), some (.int v4), some (.int v5), none, none] [] (bX9_seeks_21 k2 k11 k21 r0 v1 v2 v3 v4 v5) := by
  unfold bX9_seeks_21
  refine S_iload (pc := 21) dX9_seeks_21 rfl ?_
  refine S_iload_n (pc := 23) dX9_seeks_23 rfl ?_
  refine S_iconst (pc := 24) (v := (nI 3)) dX9_seeks_24 kI_3 ?_
  refine S_icmpge (pc := 25) (tgt := 33) dX9_seeks_25 (by decide) ?_ ?_
  · refine S_iconst (pc := 33) (v := (nI 1)) dX9_seeks_33 kI_1 ?_
    exact (sX9_seeks_34 h2 h11 h21 r0 v1 v2 v3 v4 v5 v5 (nI 1))
  · refine S_bipush (pc := 28) (v := (nI 8)) dX9_seeks_28 kB_8 ?_
    refine S_goto (pc := 30) (tgt := 34) dX9_seeks_30 (by decide) ?_
    exact (sX9_seeks_34 h2 h11 h21 r0 v1 v2 v3 v4 v5 v5 (nI 8))
theorem sX9_seeks_21 {k2 : Nat → Int32 → Int32 → Int32 → AH → Option (Int32 × AH)} (h2 : ∀ (r0 : Nat) (v1 : Int32) (v2 : Int32) (v3 : Int32), Sm mX9_seeks rI 0 0 2 [some (.ref r0), some (.int v1), some (.int v2), some (.int v3), none, none, none, none] [] (k2 r0 v1 v2 v3)) {k11 : Nat → Int32 → Int32 → Int32 → Int32 → AH → Option (Int32 × AH)} (h11 : ∀ (r0 : Nat) (v1 : Int32) (v2 : Int32) (v3 : Int32) (v4 : Int32), Sm mX9_seeks rI 0 0 11 [some (.ref r0), some (.int v1), some (.int v2), some (.int v3), some (.int v4), none, none, none] [] (k11 r0 v1 v2 v3 v4)) : ∀ (n : Nat) (r0 : Nat) (v1 : Int32) (v2 : Int32) (v3 : Int32) (v4 : Int32) (v5 : Int32), Sm mX9_seeks rI 0 0 21 [some (.ref r0), some (.int v1), some (.int v2), some (.int v3), some (.int v4), some (.int v5), none, none] [] (lX9_seeks_21 k2 k11 n r0 v1 v2 v3 v4 v5)
  | 0, _, _, _, _, _, _ => S_none
  | n + 1, r0, v1, v2, v3, v4, v5 => sbX9_seeks_21 h2 h11 (sX9_seeks_21 h2 h11 n) r0 v1 v2 v3 v4 v5
theorem sbX9_seeks_11 {k2 : Nat → Int32 → Int32 → Int32 → AH → Option (Int32 × AH)} (h2 : ∀ (r0 : Nat) (v1 : Int32) (v2 : Int32) (v3 : Int32), Sm mX9_seeks rI 0 0 2 [some (.ref r0), some (.int v1), some (.int v2), some (.int v3), none, none, none, none] [] (k2 r0 v1 v2 v3)) {k11 : Nat → Int32 → Int32 → Int32 → Int32 → AH → Option (Int32 × AH)} (h11 : ∀ (r0 : Nat) (v1 : Int32) (v2 : Int32) (v3 : Int32) (v4 : Int32), Sm mX9_seeks rI 0 0 11 [some (.ref r0), some (.int v1), some (.int v2), some (.int v3), some (.int v4), none, none, none] [] (k11 r0 v1 v2 v3 v4)) (r0 : Nat) (v1 : Int32) (v2 : Int32) (v3 : Int32) (v4 : Int32) : Sm mX9_seeks rI 0 0 11 [some (.ref r0), some (.int v1), some (.int v2), some (.int v3), some (.int v4), none, none, none] [] (bX9_seeks_11 k2 k11 r0 v1 v2 v3 v4) := by
  unfold bX9_seeks_11
  refine S_iload (pc := 11) dX9_seeks_11 rfl ?_
  refine S_bipush (pc := 13) (v := (nI 10)) dX9_seeks_13 kB_10 ?_
  refine S_icmpge (pc := 15) (tgt := 163) dX9_seeks_15 (by decide) ?_ ?_
  · refine Z_iinc (pc := 163) (v := (nI 1)) (lv' := [some (.ref r0), some (.int v1), some (.int v2), some (.int (v3 + (nI 1))), some (.int v4), none, none, none]) dX9_seeks_163 rfl kI_1 rfl rfl rfl ?_
    refine S_goto (pc := 166) (tgt := 2) dX9_seeks_166 (by decide) ?_
    exact (S_lv (lv0 := [some (.ref r0), some (.int v1), some (.int v2), some (.int (v3 + (nI 1))), none, none, none, none]) (And.intro rfl (And.intro rfl (And.intro rfl (And.intro rfl trivial)))) (h2 r0 v1 v2 (v3 + (nI 1))))
  · refine S_iconst (pc := 18) (v := (nI 0)) dX9_seeks_18 kI_0 ?_
    refine Z_istore (pc := 19) (lv' := [some (.ref r0), some (.int v1), some (.int v2), some (.int v3), some (.int v4), some (.int (nI 0)), none, none]) dX9_seeks_19 rfl rfl rfl ?_
    exact (sX9_seeks_21 h2 h11 fuel r0 v1 v2 v3 v4 (nI 0))
theorem sX9_seeks_11 {k2 : Nat → Int32 → Int32 → Int32 → AH → Option (Int32 × AH)} (h2 : ∀ (r0 : Nat) (v1 : Int32) (v2 : Int32) (v3 : Int32), Sm mX9_seeks rI 0 0 2 [some (.ref r0), some (.int v1), some (.int v2), some (.int v3), none, none, none, none] [] (k2 r0 v1 v2 v3)) : ∀ (n : Nat) (r0 : Nat) (v1 : Int32) (v2 : Int32) (v3 : Int32) (v4 : Int32), Sm mX9_seeks rI 0 0 11 [some (.ref r0), some (.int v1), some (.int v2), some (.int v3), some (.int v4), none, none, none] [] (lX9_seeks_11 k2 n r0 v1 v2 v3 v4)
  | 0, _, _, _, _, _ => S_none
  | n + 1, r0, v1, v2, v3, v4 => sbX9_seeks_11 h2 (sX9_seeks_11 h2 n) r0 v1 v2 v3 v4
theorem sbX9_seeks_2  {k2 : Nat → Int32 → Int32 → Int32 → AH → Option (Int32 × AH)} (h2 : ∀ (r0 : Nat) (v1 : Int32) (v2 : Int32) (v3 : Int32), Sm mX9_seeks rI 0 0 2 [some (.ref r0), some (.int v1), some (.int v2), some (.int v3), none, none, none, none] [] (k2 r0 v1 v2 v3)) (r0 : Nat) (v1 : Int32) (v2 : Int32) (v3 : Int32) : Sm mX9_seeks rI 0 0 2 [some (.ref r0), some (.int v1), some (.int v2), some (.int v3), none, none, none, none] [] (bX9_seeks_2 k2 r0 v1 v2 v3) := by
  unfold bX9_seeks_2
  refine S_iload_n (pc := 2) dX9_seeks_2 rfl ?_
  refine S_bipush (pc := 3) (v := (nI 6)) dX9_seeks_3 kB_6 ?_
  refine S_icmpge (pc := 5) (tgt := 169) dX9_seeks_5 (by decide) ?_ ?_
  · refine S_iconst (pc := 169) (v := (nI 0)) dX9_seeks_169 kI_0 ?_
    exact S_zret (pc := 170) ⟨rfl, rfl⟩ rfl rfl dX9_seeks_170
  · refine S_iconst (pc := 8) (v := (nI 0)) dX9_seeks_8 kI_0 ?_
    refine Z_istore (pc := 9) (lv' := [some (.ref r0), some (.int v1), some (.int v2), some (.int v3), some (.int (nI 0)), none, none, none]) dX9_seeks_9 rfl rfl rfl ?_
    exact (sX9_seeks_11 h2 fuel r0 v1 v2 v3 (nI 0))
theorem sX9_seeks_2  : ∀ (n : Nat) (r0 : Nat) (v1 : Int32) (v2 : Int32) (v3 : Int32), Sm mX9_seeks rI 0 0 2 [some (.ref r0), some (.int v1), some (.int v2), some (.int v3), none, none, none, none] [] (lX9_seeks_2 n r0 v1 v2 v3)
  | 0, _, _, _, _ => S_none
  | n + 1, r0, v1, v2, v3 => sbX9_seeks_2 (sX9_seeks_2 n) r0 v1 v2 v3
theorem sX9_seeks  (r0 : Nat) (v1 : Int32) (v2 : Int32) : Sm mX9_seeks rI 0 0 0 [some (.ref r0), some (.int v1), some (.int v2), none, none, none, none, none] [] (fX9_seeks r0 v1 v2) := by
  unfold fX9_seeks
  refine S_iconst (pc := 0) (v := (nI 0)) dX9_seeks_0 kI_0 ?_
  refine Z_istore_n (pc := 1) (lv' := [some (.ref r0), some (.int v1), some (.int v2), some (.int (nI 0)), none, none, none, none]) dX9_seeks_1 rfl rfl rfl ?_
  exact (sX9_seeks_2 fuel r0 v1 v2 (nI 0))
theorem ktX9_seeks (r0 : Nat) (v1 : Int32) (v2 : Int32) : Ct mX9_seeks rI [.ref r0, .int v1, .int v2] (fX9_seeks r0 v1 v2) := Ct.of (z := 5) pn_X9 rfl rfl rfl (sX9_seeks r0 v1 v2)
def mX9_sample : MI := (yX9_sample, cX9_sample, 5, (some .int), { frames := 13, cells := 0, slots := 0, locals := 318 }, [])
theorem mw_X9_sample : MW mX9_sample 3 := ⟨w1656, w11, ⟨by decide, by decide⟩, by decide +kernel⟩
theorem mv_X9_sample : MV mX9_sample 9 := ⟨_, rfl, w1654, w1655⟩
def fX9_sample_45  (r0 : Nat) (v1 : Int32) (v2 : Int32) (v3 : Int32) (s0 : Nat) (s1 : Int32) : AH → Option (Int32 × AH) := fun h =>
  cv 9 s0 (fX9_refused s0 s1) h fun x_19 h =>
  if x_19 = 0 then (
    cv 9 r0 (fX9_seeks r0 v1 v2) h fun x_20 h =>
    if x_20 = 0 then (
      some ((-2 : Int32), h))
    else
    if (nI 3) ≤ v3 then (
      (gP 9 r0 15 h).bind fun a_21 =>
      (ldI a_21 (((nI 5) + v3) - (nI 3)) h).bind fun x_22 =>
      some (x_22, h))
    else
    (gP 9 r0 15 h).bind fun a_23 =>
    (ldI a_23 v3 h).bind fun x_24 =>
    some (x_24, h))
  else
  some ((nI 0), h)
def fX9_sample_32  (r0 : Nat) (v1 : Int32) (v2 : Int32) (v3 : Int32) (s0 : Int32) : AH → Option (Int32 × AH) := fun h =>
  if s0 = 0 then (
    fX9_sample_45 r0 v1 v2 v3 r0 (nI 1) h)
  else
  fX9_sample_45 r0 v1 v2 v3 r0 (nI 0) h
def fX9_sample_31  (r0 : Nat) (v1 : Int32) (v2 : Int32) (v3 : Int32) : AH → Option (Int32 × AH) := fun h =>
  fX9_sample_32 r0 v1 v2 v3 (nI 0) h
def fX9_sample  (r0 : Nat) (v1 : Int32) (v2 : Int32) (v3 : Int32) : AH → Option (Int32 × AH) := fun h =>
  bd (fX9_within v1 (nI 1) (nI 5) h) fun x_25 h =>
  if x_25 = 0 then (
    fX9_sample_31 r0 v1 v2 v3 h)
  else
  bd (fX9_within v2 (nI 0) (nI 3) h) fun x_26 h =>
  if x_26 = 0 then (
    fX9_sample_31 r0 v1 v2 v3 h)
  else
  bd (fX9_within v3 (nI 0) (nI 5) h) fun x_27 h =>
  if x_27 = 0 then (
    fX9_sample_31 r0 v1 v2 v3 h)
  else
  fX9_sample_32 r0 v1 v2 v3 (nI 1) h
theorem sX9_sample_45  (r0 : Nat) (v1 : Int32) (v2 : Int32) (v3 : Int32) (s0 : Nat) (s1 : Int32) : Sm mX9_sample rI 0 0 45 [some (.ref r0), some (.int v1), some (.int v2), some (.int v3), none] [.int s1, .ref s0] (fX9_sample_45 r0 v1 v2 v3 s0 s1) := by
  unfold fX9_sample_45
  refine Y_Vi (pc := 45) (st := []) (kc' := 0) (ks' := 0) (ktX9_refused s0 s1) mw_X9_refused mv_X9_refused w1415 (RO.mk rfl rfl rfl rfl) rfl rfl rfl dX9_sample_45 ⟨rfl, rfl⟩ (fun x_19 => ?_)
  refine S_ifeq (pc := 48) (tgt := 53) dX9_sample_48 (by decide) ?_ ?_
  · refine S_aload_n (pc := 53) dX9_sample_53 rfl ?_
    refine S_iload_n (pc := 54) dX9_sample_54 rfl ?_
    refine S_iload_n (pc := 55) dX9_sample_55 rfl ?_
    refine Y_Vi (pc := 56) (st := []) (kc' := 0) (ks' := 0) (ktX9_seeks r0 v1 v2) mw_X9_seeks mv_X9_seeks w1657 (RO.mk rfl rfl rfl rfl) rfl rfl rfl dX9_sample_56 ⟨rfl, rfl⟩ (fun x_20 => ?_)
    refine S_ifne (pc := 59) (tgt := 65) dX9_sample_59 (by decide) ?_ ?_
    · refine S_iload_n (pc := 65) dX9_sample_65 rfl ?_
      refine S_iconst (pc := 66) (v := (nI 3)) dX9_sample_66 kI_3 ?_
      refine S_icmpge (pc := 67) (tgt := 79) dX9_sample_67 (by decide) ?_ ?_
      · refine S_aload_n (pc := 79) dX9_sample_79 rfl ?_
        refine S_gP (pc := 80) fl_X9_22 rfl dX9_sample_80 (fun a_21 => ?_)
        refine S_iconst (pc := 83) (v := (nI 5)) dX9_sample_83 kI_5 ?_
        refine S_iload_n (pc := 84) dX9_sample_84 rfl ?_
        refine S_iadd (pc := 85) dX9_sample_85 ?_
        refine S_iconst (pc := 86) (v := (nI 3)) dX9_sample_86 kI_3 ?_
        refine S_isub (pc := 87) dX9_sample_87 ?_
        refine S_ldI (pc := 88) dX9_sample_88 (fun x_22 => ?_)
        exact S_iret (pc := 89) ⟨rfl, rfl⟩ rfl rfl dX9_sample_89
      · refine S_aload_n (pc := 70) dX9_sample_70 rfl ?_
        refine S_gP (pc := 71) fl_X9_22 rfl dX9_sample_71 (fun a_23 => ?_)
        refine S_iload_n (pc := 74) dX9_sample_74 rfl ?_
        refine S_ldI (pc := 75) dX9_sample_75 (fun x_24 => ?_)
        refine S_goto (pc := 76) (tgt := 89) dX9_sample_76 (by decide) ?_
        exact S_iret (pc := 89) ⟨rfl, rfl⟩ rfl rfl dX9_sample_89
    · refine S_bipush (pc := 62) (v := (-2 : Int32)) dX9_sample_62 kB_m2 ?_
      exact S_iret (pc := 64) ⟨rfl, rfl⟩ rfl rfl dX9_sample_64
  · refine S_iconst (pc := 51) (v := (nI 0)) dX9_sample_51 kI_0 ?_
    exact S_iret (pc := 52) ⟨rfl, rfl⟩ rfl rfl dX9_sample_52
theorem sX9_sample_32  (r0 : Nat) (v1 : Int32) (v2 : Int32) (v3 : Int32) (s0 : Int32) : Sm mX9_sample rI 0 0 32 [some (.ref r0), some (.int v1), some (.int v2), some (.int v3), none] [.int s0] (fX9_sample_32 r0 v1 v2 v3 s0) := by
  unfold fX9_sample_32
  refine Z_istore (pc := 32) (lv' := [some (.ref r0), some (.int v1), some (.int v2), some (.int v3), some (.int s0)]) dX9_sample_32 rfl rfl rfl ?_
  refine S_aload_n (pc := 34) dX9_sample_34 rfl ?_
  refine S_iload (pc := 35) dX9_sample_35 rfl ?_
  refine S_ifeq (pc := 37) (tgt := 44) dX9_sample_37 (by decide) ?_ ?_
  · refine S_iconst (pc := 44) (v := (nI 1)) dX9_sample_44 kI_1 ?_
    exact (S_lv (lv0 := [some (.ref r0), some (.int v1), some (.int v2), some (.int v3), none]) (And.intro rfl (And.intro rfl (And.intro rfl (And.intro rfl trivial)))) (sX9_sample_45 r0 v1 v2 v3 r0 (nI 1)))
  · refine S_iconst (pc := 40) (v := (nI 0)) dX9_sample_40 kI_0 ?_
    refine S_goto (pc := 41) (tgt := 45) dX9_sample_41 (by decide) ?_
    exact (S_lv (lv0 := [some (.ref r0), some (.int v1), some (.int v2), some (.int v3), none]) (And.intro rfl (And.intro rfl (And.intro rfl (And.intro rfl trivial)))) (sX9_sample_45 r0 v1 v2 v3 r0 (nI 0)))
theorem sX9_sample_31  (r0 : Nat) (v1 : Int32) (v2 : Int32) (v3 : Int32) : Sm mX9_sample rI 0 0 31 [some (.ref r0), some (.int v1), some (.int v2), some (.int v3), none] [] (fX9_sample_31 r0 v1 v2 v3) := by
  unfold fX9_sample_31
  refine S_iconst (pc := 31) (v := (nI 0)) dX9_sample_31 kI_0 ?_
  exact (sX9_sample_32 r0 v1 v2 v3 (nI 0))
theorem sX9_sample  (r0 : Nat) (v1 : Int32) (v2 : Int32) (v3 : Int32) : Sm mX9_sample rI 0 0 0 [some (.ref r0), some (.int v1), some (.int v2), some (.int v3), none] [] (fX9_sample r0 v1 v2 v3) := by
  unfold fX9_sample
  refine S_iload_n (pc := 0) dX9_sample_0 rfl ?_
  refine S_iconst (pc := 1) (v := (nI 1)) dX9_sample_1 kI_1 ?_
  refine S_iconst (pc := 2) (v := (nI 5)) dX9_sample_2 kI_5 ?_
  refine Y_Ti (pc := 3) (st := []) (kc' := 0) (ks' := 0) (ktX9_within v1 (nI 1) (nI 5)) mw_X9_within w1217 w1216 (RO.mk rfl rfl rfl rfl) rfl rfl rfl dX9_sample_3 ⟨rfl, rfl⟩ (fun x_25 => ?_)
  refine S_ifeq (pc := 6) (tgt := 31) dX9_sample_6 (by decide) ?_ ?_
  · exact (sX9_sample_31 r0 v1 v2 v3)
  · refine S_iload_n (pc := 9) dX9_sample_9 rfl ?_
    refine S_iconst (pc := 10) (v := (nI 0)) dX9_sample_10 kI_0 ?_
    refine S_iconst (pc := 11) (v := (nI 3)) dX9_sample_11 kI_3 ?_
    refine Y_Ti (pc := 12) (st := []) (kc' := 0) (ks' := 0) (ktX9_within v2 (nI 0) (nI 3)) mw_X9_within w1217 w1216 (RO.mk rfl rfl rfl rfl) rfl rfl rfl dX9_sample_12 ⟨rfl, rfl⟩ (fun x_26 => ?_)
    refine S_ifeq (pc := 15) (tgt := 31) dX9_sample_15 (by decide) ?_ ?_
    · exact (sX9_sample_31 r0 v1 v2 v3)
    · refine S_iload_n (pc := 18) dX9_sample_18 rfl ?_
      refine S_iconst (pc := 19) (v := (nI 0)) dX9_sample_19 kI_0 ?_
      refine S_iconst (pc := 20) (v := (nI 5)) dX9_sample_20 kI_5 ?_
      refine Y_Ti (pc := 21) (st := []) (kc' := 0) (ks' := 0) (ktX9_within v3 (nI 0) (nI 5)) mw_X9_within w1217 w1216 (RO.mk rfl rfl rfl rfl) rfl rfl rfl dX9_sample_21 ⟨rfl, rfl⟩ (fun x_27 => ?_)
      refine S_ifeq (pc := 24) (tgt := 31) dX9_sample_24 (by decide) ?_ ?_
      · exact (sX9_sample_31 r0 v1 v2 v3)
      · refine S_iconst (pc := 27) (v := (nI 1)) dX9_sample_27 kI_1 ?_
        refine S_goto (pc := 28) (tgt := 32) dX9_sample_28 (by decide) ?_
        exact (sX9_sample_32 r0 v1 v2 v3 (nI 1))
theorem ktX9_sample (r0 : Nat) (v1 : Int32) (v2 : Int32) (v3 : Int32) : Ct mX9_sample rI [.ref r0, .int v1, .int v2, .int v3] (fX9_sample r0 v1 v2 v3) := Ct.of (z := 1) pn_X9 rfl rfl rfl (sX9_sample r0 v1 v2 v3)
def mX9_selected : MI := (yX9_selected, cX9_selected, 6, (some .int), { frames := 8, cells := 0, slots := 0, locals := 197 }, [])
theorem mw_X9_selected : MW mX9_selected 3 := ⟨w1568, w11, ⟨by decide, by decide⟩, by decide +kernel⟩
theorem mv_X9_selected : MV mX9_selected 9 := ⟨_, rfl, w1566, w1567⟩
def fX9_selected_103  (r0 : Nat) (v1 : Int32) (v2 : Int32) (v3 : Int32) (s0 : Nat) (s1 : Int32) : AH → Option (Int32 × AH) := fun h =>
  cv 9 s0 (fX9_refused s0 s1) h fun x_21 h =>
  if x_21 = 0 then (
    cv 9 r0 (fX9_selectedFor r0 v1 v2 v3) h fun x_22 h =>
    some (x_22, h))
  else
  some ((nI 0), h)
def fX9_selected_81  (r0 : Nat) (v1 : Int32) (v2 : Int32) (v3 : Int32) (v4 : Int32) (s0 : Int32) : AH → Option (Int32 × AH) := fun h =>
  if v4 = 0 then (
    fX9_selected_103 r0 v1 v2 v3 r0 (nI 1) h)
  else
  if s0 = 0 then (
    fX9_selected_103 r0 v1 v2 v3 r0 (nI 2) h)
  else
  fX9_selected_103 r0 v1 v2 v3 r0 (nI 0) h
def fX9_selected_80  (r0 : Nat) (v1 : Int32) (v2 : Int32) (v3 : Int32) (v4 : Int32) : AH → Option (Int32 × AH) := fun h =>
  fX9_selected_81 r0 v1 v2 v3 v4 (nI 0) h
def fX9_selected_23  (r0 : Nat) (v1 : Int32) (v2 : Int32) (v3 : Int32) (s0 : Int32) : AH → Option (Int32 × AH) := fun h =>
  if s0 = 0 then (
    fX9_selected_80 r0 v1 v2 v3 s0 h)
  else
  cv 9 r0 (fX9_isMethod r0 v1 v2) h fun x_23 h =>
  if x_23 = 0 then (
    fX9_selected_80 r0 v1 v2 v3 s0 h)
  else
  cv 9 r0 (fX9_isStatic r0 v1 v2) h fun x_24 h =>
  if x_24 = 0 then (
    cv 9 r0 (fX9_isInterface r0 v1 v3) h fun x_25 h =>
    if x_25 = 0 then (
      cv 9 r0 (fX9_supertypes r0 v1 v3) h fun x_26 h =>
      cv 9 r0 (fX9_its r0 v1 v2 (nI 1)) h fun x_27 h =>
      bd (fX9_has x_26 x_27 h) fun x_28 h =>
      if x_28 = 0 then (
        fX9_selected_80 r0 v1 v2 v3 s0 h)
      else
      fX9_selected_81 r0 v1 v2 v3 s0 (nI 1) h)
    else
    fX9_selected_80 r0 v1 v2 v3 s0 h)
  else
  fX9_selected_80 r0 v1 v2 v3 s0 h
def fX9_selected_22  (r0 : Nat) (v1 : Int32) (v2 : Int32) (v3 : Int32) : AH → Option (Int32 × AH) := fun h =>
  fX9_selected_23 r0 v1 v2 v3 (nI 0) h
def fX9_selected  (r0 : Nat) (v1 : Int32) (v2 : Int32) (v3 : Int32) : AH → Option (Int32 × AH) := fun h =>
  cv 9 r0 (fX9_isMember r0 v1 v2) h fun x_29 h =>
  if x_29 = 0 then (
    fX9_selected_22 r0 v1 v2 v3 h)
  else
  cv 9 r0 (fX9_isClass r0 v1 v3) h fun x_30 h =>
  if x_30 = 0 then (
    fX9_selected_22 r0 v1 v2 v3 h)
  else
  fX9_selected_23 r0 v1 v2 v3 (nI 1) h
theorem sX9_selected_103  (r0 : Nat) (v1 : Int32) (v2 : Int32) (v3 : Int32) (s0 : Nat) (s1 : Int32) : Sm mX9_selected rI 0 0 103 [some (.ref r0), some (.int v1), some (.int v2), some (.int v3), none, none] [.int s1, .ref s0] (fX9_selected_103 r0 v1 v2 v3 s0 s1) := by
  unfold fX9_selected_103
  refine Y_Vi (pc := 103) (st := []) (kc' := 0) (ks' := 0) (ktX9_refused s0 s1) mw_X9_refused mv_X9_refused w1415 (RO.mk rfl rfl rfl rfl) rfl rfl rfl dX9_selected_103 ⟨rfl, rfl⟩ (fun x_21 => ?_)
  refine S_ifeq (pc := 106) (tgt := 111) dX9_selected_106 (by decide) ?_ ?_
  · refine S_aload_n (pc := 111) dX9_selected_111 rfl ?_
    refine S_iload_n (pc := 112) dX9_selected_112 rfl ?_
    refine S_iload_n (pc := 113) dX9_selected_113 rfl ?_
    refine S_iload_n (pc := 114) dX9_selected_114 rfl ?_
    refine Y_Vi (pc := 115) (st := []) (kc' := 0) (ks' := 0) (ktX9_selectedFor r0 v1 v2 v3) mw_X9_selectedFor mv_X9_selectedFor w1569 (RO.mk rfl rfl rfl rfl) rfl rfl rfl dX9_selected_115 ⟨rfl, rfl⟩ (fun x_22 => ?_)
    exact S_iret (pc := 118) ⟨rfl, rfl⟩ rfl rfl dX9_selected_118
  · refine S_iconst (pc := 109) (v := (nI 0)) dX9_selected_109 kI_0 ?_
    exact S_iret (pc := 110) ⟨rfl, rfl⟩ rfl rfl dX9_selected_110
theorem sX9_selected_81  (r0 : Nat) (v1 : Int32) (v2 : Int32) (v3 : Int32) (v4 : Int32) (s0 : Int32) : Sm mX9_selected rI 0 0 81 [some (.ref r0), some (.int v1), some (.int v2), some (.int v3), some (.int v4), none] [.int s0] (fX9_selected_81 r0 v1 v2 v3 v4 s0) := by
  unfold fX9_selected_81
  refine Z_istore (pc := 81) (lv' := [some (.ref r0), some (.int v1), some (.int v2), some (.int v3), some (.int v4), some (.int s0)]) dX9_selected_81 rfl rfl rfl ?_
  refine S_aload_n (pc := 83) dX9_selected_83 rfl ?_
  refine S_iload (pc := 84) dX9_selected_84 rfl ?_
  refine S_ifne (pc := 86) (tgt := 93) dX9_selected_86 (by decide) ?_ ?_
  · refine S_iload (pc := 93) dX9_selected_93 rfl ?_
    refine S_ifne (pc := 95) (tgt := 102) dX9_selected_95 (by decide) ?_ ?_
    · refine S_iconst (pc := 102) (v := (nI 0)) dX9_selected_102 kI_0 ?_
      exact (S_lv (lv0 := [some (.ref r0), some (.int v1), some (.int v2), some (.int v3), none, none]) (And.intro rfl (And.intro rfl (And.intro rfl (And.intro rfl trivial)))) (sX9_selected_103 r0 v1 v2 v3 r0 (nI 0)))
    · refine S_iconst (pc := 98) (v := (nI 2)) dX9_selected_98 kI_2 ?_
      refine S_goto (pc := 99) (tgt := 103) dX9_selected_99 (by decide) ?_
      exact (S_lv (lv0 := [some (.ref r0), some (.int v1), some (.int v2), some (.int v3), none, none]) (And.intro rfl (And.intro rfl (And.intro rfl (And.intro rfl trivial)))) (sX9_selected_103 r0 v1 v2 v3 r0 (nI 2)))
  · refine S_iconst (pc := 89) (v := (nI 1)) dX9_selected_89 kI_1 ?_
    refine S_goto (pc := 90) (tgt := 103) dX9_selected_90 (by decide) ?_
    exact (S_lv (lv0 := [some (.ref r0), some (.int v1), some (.int v2), some (.int v3), none, none]) (And.intro rfl (And.intro rfl (And.intro rfl (And.intro rfl trivial)))) (sX9_selected_103 r0 v1 v2 v3 r0 (nI 1)))
theorem sX9_selected_80  (r0 : Nat) (v1 : Int32) (v2 : Int32) (v3 : Int32) (v4 : Int32) : Sm mX9_selected rI 0 0 80 [some (.ref r0), some (.int v1), some (.int v2), some (.int v3), some (.int v4), none] [] (fX9_selected_80 r0 v1 v2 v3 v4) := by
  unfold fX9_selected_80
  refine S_iconst (pc := 80) (v := (nI 0)) dX9_selected_80 kI_0 ?_
  exact (sX9_selected_81 r0 v1 v2 v3 v4 (nI 0))
theorem sX9_selected_23  (r0 : Nat) (v1 : Int32) (v2 : Int32) (v3 : Int32) (s0 : Int32) : Sm mX9_selected rI 0 0 23 [some (.ref r0), some (.int v1), some (.int v2), some (.int v3), none, none] [.int s0] (fX9_selected_23 r0 v1 v2 v3 s0) := by
  unfold fX9_selected_23
  refine Z_istore (pc := 23) (lv' := [some (.ref r0), some (.int v1), some (.int v2), some (.int v3), some (.int s0), none]) dX9_selected_23 rfl rfl rfl ?_
  refine S_iload (pc := 25) dX9_selected_25 rfl ?_
  refine S_ifeq (pc := 27) (tgt := 80) dX9_selected_27 (by decide) ?_ ?_
  · exact (sX9_selected_80 r0 v1 v2 v3 s0)
  · refine S_aload_n (pc := 30) dX9_selected_30 rfl ?_
    refine S_iload_n (pc := 31) dX9_selected_31 rfl ?_
    refine S_iload_n (pc := 32) dX9_selected_32 rfl ?_
    refine Y_Vi (pc := 33) (st := []) (kc' := 0) (ks' := 0) (ktX9_isMethod r0 v1 v2) mw_X9_isMethod mv_X9_isMethod w1278 (RO.mk rfl rfl rfl rfl) rfl rfl rfl dX9_selected_33 ⟨rfl, rfl⟩ (fun x_23 => ?_)
    refine S_ifeq (pc := 36) (tgt := 80) dX9_selected_36 (by decide) ?_ ?_
    · exact (sX9_selected_80 r0 v1 v2 v3 s0)
    · refine S_aload_n (pc := 39) dX9_selected_39 rfl ?_
      refine S_iload_n (pc := 40) dX9_selected_40 rfl ?_
      refine S_iload_n (pc := 41) dX9_selected_41 rfl ?_
      refine Y_Vi (pc := 42) (st := []) (kc' := 0) (ks' := 0) (ktX9_isStatic r0 v1 v2) mw_X9_isStatic mv_X9_isStatic w1266 (RO.mk rfl rfl rfl rfl) rfl rfl rfl dX9_selected_42 ⟨rfl, rfl⟩ (fun x_24 => ?_)
      refine S_ifne (pc := 45) (tgt := 80) dX9_selected_45 (by decide) ?_ ?_
      · exact (sX9_selected_80 r0 v1 v2 v3 s0)
      · refine S_aload_n (pc := 48) dX9_selected_48 rfl ?_
        refine S_iload_n (pc := 49) dX9_selected_49 rfl ?_
        refine S_iload_n (pc := 50) dX9_selected_50 rfl ?_
        refine Y_Vi (pc := 51) (st := []) (kc' := 0) (ks' := 0) (ktX9_isInterface r0 v1 v3) mw_X9_isInterface mv_X9_isInterface w1282 (RO.mk rfl rfl rfl rfl) rfl rfl rfl dX9_selected_51 ⟨rfl, rfl⟩ (fun x_25 => ?_)
        refine S_ifne (pc := 54) (tgt := 80) dX9_selected_54 (by decide) ?_ ?_
        · exact (sX9_selected_80 r0 v1 v2 v3 s0)
        · refine S_aload_n (pc := 57) dX9_selected_57 rfl ?_
          refine S_iload_n (pc := 58) dX9_selected_58 rfl ?_
          refine S_iload_n (pc := 59) dX9_selected_59 rfl ?_
          refine Y_Vi (pc := 60) (st := []) (kc' := 0) (ks' := 0) (ktX9_supertypes r0 v1 v3) mw_X9_supertypes mv_X9_supertypes w1258 (RO.mk rfl rfl rfl rfl) rfl rfl rfl dX9_selected_60 ⟨rfl, rfl⟩ (fun x_26 => ?_)
          refine S_aload_n (pc := 63) dX9_selected_63 rfl ?_
          refine S_iload_n (pc := 64) dX9_selected_64 rfl ?_
          refine S_iload_n (pc := 65) dX9_selected_65 rfl ?_
          refine S_iconst (pc := 66) (v := (nI 1)) dX9_selected_66 kI_1 ?_
          refine Y_Vi (pc := 67) (st := [.int x_26]) (kc' := 0) (ks' := 0) (ktX9_its r0 v1 v2 (nI 1)) mw_X9_its mv_X9_its w1243 (RO.mk rfl rfl rfl rfl) rfl rfl rfl dX9_selected_67 ⟨rfl, rfl⟩ (fun x_27 => ?_)
          refine Y_Ti (pc := 70) (st := []) (kc' := 0) (ks' := 0) (ktX9_has x_26 x_27) mw_X9_has w1252 w1251 (RO.mk rfl rfl rfl rfl) rfl rfl rfl dX9_selected_70 ⟨rfl, rfl⟩ (fun x_28 => ?_)
          refine S_ifeq (pc := 73) (tgt := 80) dX9_selected_73 (by decide) ?_ ?_
          · exact (sX9_selected_80 r0 v1 v2 v3 s0)
          · refine S_iconst (pc := 76) (v := (nI 1)) dX9_selected_76 kI_1 ?_
            refine S_goto (pc := 77) (tgt := 81) dX9_selected_77 (by decide) ?_
            exact (sX9_selected_81 r0 v1 v2 v3 s0 (nI 1))
theorem sX9_selected_22  (r0 : Nat) (v1 : Int32) (v2 : Int32) (v3 : Int32) : Sm mX9_selected rI 0 0 22 [some (.ref r0), some (.int v1), some (.int v2), some (.int v3), none, none] [] (fX9_selected_22 r0 v1 v2 v3) := by
  unfold fX9_selected_22
  refine S_iconst (pc := 22) (v := (nI 0)) dX9_selected_22 kI_0 ?_
  exact (sX9_selected_23 r0 v1 v2 v3 (nI 0))
theorem sX9_selected  (r0 : Nat) (v1 : Int32) (v2 : Int32) (v3 : Int32) : Sm mX9_selected rI 0 0 0 [some (.ref r0), some (.int v1), some (.int v2), some (.int v3), none, none] [] (fX9_selected r0 v1 v2 v3) := by
  unfold fX9_selected
  refine S_aload_n (pc := 0) dX9_selected_0 rfl ?_
  refine S_iload_n (pc := 1) dX9_selected_1 rfl ?_
  refine S_iload_n (pc := 2) dX9_selected_2 rfl ?_
  refine Y_Vi (pc := 3) (st := []) (kc' := 0) (ks' := 0) (ktX9_isMember r0 v1 v2) mw_X9_isMember mv_X9_isMember w1514 (RO.mk rfl rfl rfl rfl) rfl rfl rfl dX9_selected_3 ⟨rfl, rfl⟩ (fun x_29 => ?_)
  refine S_ifeq (pc := 6) (tgt := 22) dX9_selected_6 (by decide) ?_ ?_
  · exact (sX9_selected_22 r0 v1 v2 v3)
  · refine S_aload_n (pc := 9) dX9_selected_9 rfl ?_
    refine S_iload_n (pc := 10) dX9_selected_10 rfl ?_
    refine S_iload_n (pc := 11) dX9_selected_11 rfl ?_
    refine Y_Vi (pc := 12) (st := []) (kc' := 0) (ks' := 0) (ktX9_isClass r0 v1 v3) mw_X9_isClass mv_X9_isClass w1209 (RO.mk rfl rfl rfl rfl) rfl rfl rfl dX9_selected_12 ⟨rfl, rfl⟩ (fun x_30 => ?_)
    refine S_ifeq (pc := 15) (tgt := 22) dX9_selected_15 (by decide) ?_ ?_
    · exact (sX9_selected_22 r0 v1 v2 v3)
    · refine S_iconst (pc := 18) (v := (nI 1)) dX9_selected_18 kI_1 ?_
      refine S_goto (pc := 19) (tgt := 23) dX9_selected_19 (by decide) ?_
      exact (sX9_selected_23 r0 v1 v2 v3 (nI 1))
theorem ktX9_selected (r0 : Nat) (v1 : Int32) (v2 : Int32) (v3 : Int32) : Ct mX9_selected rI [.ref r0, .int v1, .int v2, .int v3] (fX9_selected r0 v1 v2 v3) := Ct.of (z := 2) pn_X9 rfl rfl rfl (sX9_selected r0 v1 v2 v3)
def mX9_setBase : MI := (yX9_setBase, cX9_setBase, 6, (some .int), { frames := 9, cells := 0, slots := 0, locals := 224 }, [])
theorem mw_X9_setBase : MW mX9_setBase 2 := ⟨w1580, w11, ⟨by decide, by decide⟩, by decide +kernel⟩
theorem mv_X9_setBase : MV mX9_setBase 9 := ⟨_, rfl, w1578, w1579⟩
def fX9_setBase_79  (r0 : Nat) (v1 : Int32) (v5 : Int32) (s0 : Nat) (s1 : Int32) : AH → Option (Int32 × AH) := fun h =>
  cv 9 s0 (fX9_refused s0 s1) h fun x_15 h =>
  if x_15 = 0 then (
    cv 9 r0 (fX9_saves r0) h fun _ h =>
    cv 9 r0 (fX9_keepsReference r0) h fun _ h =>
    cv 9 r0 (fX9_lies r0 v1) h fun _ h =>
    some (v5, h))
  else
  some ((nI 0), h)
def fX9_setBase_60  (r0 : Nat) (v1 : Int32) (v3 : Int32) (v4 : Int32) (v5 : Int32) : AH → Option (Int32 × AH) := fun h =>
  if v3 = 0 then (
    fX9_setBase_79 r0 v1 v5 r0 (nI 1) h)
  else
  if v4 = 0 then (
    fX9_setBase_79 r0 v1 v5 r0 (nI 2) h)
  else
  fX9_setBase_79 r0 v1 v5 r0 (nI 0) h
def fX9_setBase_58  (r0 : Nat) (v1 : Int32) (v3 : Int32) (v5 : Int32) (s0 : Int32) : AH → Option (Int32 × AH) := fun h =>
  fX9_setBase_60 r0 v1 v3 s0 v5 h
def fX9_setBase_57  (r0 : Nat) (v1 : Int32) (v3 : Int32) (v5 : Int32) : AH → Option (Int32 × AH) := fun h =>
  fX9_setBase_58 r0 v1 v3 v5 (nI 0) h
def fX9_setBase  (r0 : Nat) (v1 : Int32) (v2 : Int32) : AH → Option (Int32 × AH) := fun h =>
  cv 9 r0 (fX9_isClient r0 v1) h fun x_16 h =>
  if x_16 = 0 then (
    fX9_setBase_60 r0 v1 x_16 x_16 (nI 0) h)
  else
  cv 9 r0 (fX9_takes r0 v1) h fun _ h =>
  (gP 9 r0 15 h).bind fun a_17 =>
  (ldI a_17 (nI 4) h).bind fun x_18 =>
  (gP 9 r0 15 h).bind fun a_19 =>
  (stI a_19 (nI 4) v2 h).bind fun h =>
  cv 9 r0 (fX9_isBase r0 (nI 0) v2) h fun x_20 h =>
  if x_20 = 0 then (
    fX9_setBase_57 r0 v1 x_16 x_18 h)
  else
  cv 9 r0 (fX9_compiled r0 (nI 0)) h fun x_21 h =>
  if x_21 = 0 then (
    fX9_setBase_58 r0 v1 x_16 x_18 (nI 1) h)
  else
  fX9_setBase_57 r0 v1 x_16 x_18 h
theorem sX9_setBase_79  (r0 : Nat) (v1 : Int32) (v5 : Int32) (s0 : Nat) (s1 : Int32) : Sm mX9_setBase rI 0 0 79 [some (.ref r0), some (.int v1), none, none, none, some (.int v5)] [.int s1, .ref s0] (fX9_setBase_79 r0 v1 v5 s0 s1) := by
  unfold fX9_setBase_79
  refine Y_Vi (pc := 79) (st := []) (kc' := 0) (ks' := 0) (ktX9_refused s0 s1) mw_X9_refused mv_X9_refused w1415 (RO.mk rfl rfl rfl rfl) rfl rfl rfl dX9_setBase_79 ⟨rfl, rfl⟩ (fun x_15 => ?_)
  refine S_ifeq (pc := 82) (tgt := 87) dX9_setBase_82 (by decide) ?_ ?_
  · refine S_aload_n (pc := 87) dX9_setBase_87 rfl ?_
    refine Y_Vv (pc := 88) (st := []) (kc' := 0) (ks' := 0) (ktX9_saves r0) mw_X9_saves mv_X9_saves w1431 (RO.mk rfl rfl rfl rfl) rfl rfl rfl dX9_setBase_88 ⟨rfl, rfl⟩ ?_
    refine S_aload_n (pc := 91) dX9_setBase_91 rfl ?_
    refine Y_Vv (pc := 92) (st := []) (kc' := 0) (ks' := 0) (ktX9_keepsReference r0) mw_X9_keepsReference mv_X9_keepsReference w1330 (RO.mk rfl rfl rfl rfl) rfl rfl rfl dX9_setBase_92 ⟨rfl, rfl⟩ ?_
    refine S_aload_n (pc := 95) dX9_setBase_95 rfl ?_
    refine S_iload_n (pc := 96) dX9_setBase_96 rfl ?_
    refine Y_Vv (pc := 97) (st := []) (kc' := 0) (ks' := 0) (ktX9_lies r0 v1) mw_X9_lies mv_X9_lies w1338 (RO.mk rfl rfl rfl rfl) rfl rfl rfl dX9_setBase_97 ⟨rfl, rfl⟩ ?_
    refine S_iload (pc := 100) dX9_setBase_100 rfl ?_
    exact S_iret (pc := 102) ⟨rfl, rfl⟩ rfl rfl dX9_setBase_102
  · refine S_iconst (pc := 85) (v := (nI 0)) dX9_setBase_85 kI_0 ?_
    exact S_iret (pc := 86) ⟨rfl, rfl⟩ rfl rfl dX9_setBase_86
theorem sX9_setBase_60  (r0 : Nat) (v1 : Int32) (v3 : Int32) (v4 : Int32) (v5 : Int32) : Sm mX9_setBase rI 0 0 60 [some (.ref r0), some (.int v1), none, some (.int v3), some (.int v4), some (.int v5)] [] (fX9_setBase_60 r0 v1 v3 v4 v5) := by
  unfold fX9_setBase_60
  refine S_aload_n (pc := 60) dX9_setBase_60 rfl ?_
  refine S_iload_n (pc := 61) dX9_setBase_61 rfl ?_
  refine S_ifne (pc := 62) (tgt := 69) dX9_setBase_62 (by decide) ?_ ?_
  · refine S_iload (pc := 69) dX9_setBase_69 rfl ?_
    refine S_ifne (pc := 71) (tgt := 78) dX9_setBase_71 (by decide) ?_ ?_
    · refine S_iconst (pc := 78) (v := (nI 0)) dX9_setBase_78 kI_0 ?_
      exact (S_lv (lv0 := [some (.ref r0), some (.int v1), none, none, none, some (.int v5)]) (And.intro rfl (And.intro rfl (And.intro rfl trivial))) (sX9_setBase_79 r0 v1 v5 r0 (nI 0)))
    · refine S_iconst (pc := 74) (v := (nI 2)) dX9_setBase_74 kI_2 ?_
      refine S_goto (pc := 75) (tgt := 79) dX9_setBase_75 (by decide) ?_
      exact (S_lv (lv0 := [some (.ref r0), some (.int v1), none, none, none, some (.int v5)]) (And.intro rfl (And.intro rfl (And.intro rfl trivial))) (sX9_setBase_79 r0 v1 v5 r0 (nI 2)))
  · refine S_iconst (pc := 65) (v := (nI 1)) dX9_setBase_65 kI_1 ?_
    refine S_goto (pc := 66) (tgt := 79) dX9_setBase_66 (by decide) ?_
    exact (S_lv (lv0 := [some (.ref r0), some (.int v1), none, none, none, some (.int v5)]) (And.intro rfl (And.intro rfl (And.intro rfl trivial))) (sX9_setBase_79 r0 v1 v5 r0 (nI 1)))
theorem sX9_setBase_58  (r0 : Nat) (v1 : Int32) (v3 : Int32) (v5 : Int32) (s0 : Int32) : Sm mX9_setBase rI 0 0 58 [some (.ref r0), some (.int v1), none, some (.int v3), none, some (.int v5)] [.int s0] (fX9_setBase_58 r0 v1 v3 v5 s0) := by
  unfold fX9_setBase_58
  refine Z_istore (pc := 58) (lv' := [some (.ref r0), some (.int v1), none, some (.int v3), some (.int s0), some (.int v5)]) dX9_setBase_58 rfl rfl rfl ?_
  exact (sX9_setBase_60 r0 v1 v3 s0 v5)
theorem sX9_setBase_57  (r0 : Nat) (v1 : Int32) (v3 : Int32) (v5 : Int32) : Sm mX9_setBase rI 0 0 57 [some (.ref r0), some (.int v1), none, some (.int v3), none, some (.int v5)] [] (fX9_setBase_57 r0 v1 v3 v5) := by
  unfold fX9_setBase_57
  refine S_iconst (pc := 57) (v := (nI 0)) dX9_setBase_57 kI_0 ?_
  exact (sX9_setBase_58 r0 v1 v3 v5 (nI 0))
theorem sX9_setBase  (r0 : Nat) (v1 : Int32) (v2 : Int32) : Sm mX9_setBase rI 0 0 0 [some (.ref r0), some (.int v1), some (.int v2), none, none, none] [] (fX9_setBase r0 v1 v2) := by
  unfold fX9_setBase
  refine S_aload_n (pc := 0) dX9_setBase_0 rfl ?_
  refine S_iload_n (pc := 1) dX9_setBase_1 rfl ?_
  refine Y_Vi (pc := 2) (st := []) (kc' := 0) (ks' := 0) (ktX9_isClient r0 v1) mw_X9_isClient mv_X9_isClient w1581 (RO.mk rfl rfl rfl rfl) rfl rfl rfl dX9_setBase_2 ⟨rfl, rfl⟩ (fun x_16 => ?_)
  refine Z_istore_n (pc := 5) (lv' := [some (.ref r0), some (.int v1), some (.int v2), some (.int x_16), none, none]) dX9_setBase_5 rfl rfl rfl ?_
  refine S_iload_n (pc := 6) dX9_setBase_6 rfl ?_
  refine Z_istore (pc := 7) (lv' := [some (.ref r0), some (.int v1), some (.int v2), some (.int x_16), some (.int x_16), none]) dX9_setBase_7 rfl rfl rfl ?_
  refine S_iconst (pc := 9) (v := (nI 0)) dX9_setBase_9 kI_0 ?_
  refine Z_istore (pc := 10) (lv' := [some (.ref r0), some (.int v1), some (.int v2), some (.int x_16), some (.int x_16), some (.int (nI 0))]) dX9_setBase_10 rfl rfl rfl ?_
  refine S_iload_n (pc := 12) dX9_setBase_12 rfl ?_
  refine S_ifeq (pc := 13) (tgt := 60) dX9_setBase_13 (by decide) ?_ ?_
  · exact (S_lv (lv0 := [some (.ref r0), some (.int v1), none, some (.int x_16), some (.int x_16), some (.int (nI 0))]) (And.intro rfl (And.intro rfl (And.intro rfl (And.intro rfl (And.intro rfl trivial))))) (sX9_setBase_60 r0 v1 x_16 x_16 (nI 0)))
  · refine S_aload_n (pc := 16) dX9_setBase_16 rfl ?_
    refine S_iload_n (pc := 17) dX9_setBase_17 rfl ?_
    refine Y_Vv (pc := 18) (st := []) (kc' := 0) (ks' := 0) (ktX9_takes r0 v1) mw_X9_takes mv_X9_takes w1585 (RO.mk rfl rfl rfl rfl) rfl rfl rfl dX9_setBase_18 ⟨rfl, rfl⟩ ?_
    refine S_aload_n (pc := 21) dX9_setBase_21 rfl ?_
    refine S_gP (pc := 22) fl_X9_22 rfl dX9_setBase_22 (fun a_17 => ?_)
    refine S_iconst (pc := 25) (v := (nI 4)) dX9_setBase_25 kI_4 ?_
    refine S_ldI (pc := 26) dX9_setBase_26 (fun x_18 => ?_)
    refine Z_istore (pc := 27) (lv' := [some (.ref r0), some (.int v1), some (.int v2), some (.int x_16), some (.int x_16), some (.int x_18)]) dX9_setBase_27 rfl rfl rfl ?_
    refine S_aload_n (pc := 29) dX9_setBase_29 rfl ?_
    refine S_gP (pc := 30) fl_X9_22 rfl dX9_setBase_30 (fun a_19 => ?_)
    refine S_iconst (pc := 33) (v := (nI 4)) dX9_setBase_33 kI_4 ?_
    refine S_iload_n (pc := 34) dX9_setBase_34 rfl ?_
    refine S_stI (pc := 35) dX9_setBase_35 ?_
    refine S_aload_n (pc := 36) dX9_setBase_36 rfl ?_
    refine S_iconst (pc := 37) (v := (nI 0)) dX9_setBase_37 kI_0 ?_
    refine S_iload_n (pc := 38) dX9_setBase_38 rfl ?_
    refine Y_Vi (pc := 39) (st := []) (kc' := 0) (ks' := 0) (ktX9_isBase r0 (nI 0) v2) mw_X9_isBase mv_X9_isBase w1326 (RO.mk rfl rfl rfl rfl) rfl rfl rfl dX9_setBase_39 ⟨rfl, rfl⟩ (fun x_20 => ?_)
    refine S_ifeq (pc := 42) (tgt := 57) dX9_setBase_42 (by decide) ?_ ?_
    · exact (S_lv (lv0 := [some (.ref r0), some (.int v1), none, some (.int x_16), none, some (.int x_18)]) (And.intro rfl (And.intro rfl (And.intro rfl (And.intro rfl trivial)))) (sX9_setBase_57 r0 v1 x_16 x_18))
    · refine S_aload_n (pc := 45) dX9_setBase_45 rfl ?_
      refine S_iconst (pc := 46) (v := (nI 0)) dX9_setBase_46 kI_0 ?_
      refine Y_Vi (pc := 47) (st := []) (kc' := 0) (ks' := 0) (ktX9_compiled r0 (nI 0)) mw_X9_compiled mv_X9_compiled w1201 (RO.mk rfl rfl rfl rfl) rfl rfl rfl dX9_setBase_47 ⟨rfl, rfl⟩ (fun x_21 => ?_)
      refine S_ifne (pc := 50) (tgt := 57) dX9_setBase_50 (by decide) ?_ ?_
      · exact (S_lv (lv0 := [some (.ref r0), some (.int v1), none, some (.int x_16), none, some (.int x_18)]) (And.intro rfl (And.intro rfl (And.intro rfl (And.intro rfl trivial)))) (sX9_setBase_57 r0 v1 x_16 x_18))
      · refine S_iconst (pc := 53) (v := (nI 1)) dX9_setBase_53 kI_1 ?_
        refine S_goto (pc := 54) (tgt := 58) dX9_setBase_54 (by decide) ?_
        exact (S_lv (lv0 := [some (.ref r0), some (.int v1), none, some (.int x_16), none, some (.int x_18)]) (And.intro rfl (And.intro rfl (And.intro rfl (And.intro rfl trivial)))) (sX9_setBase_58 r0 v1 x_16 x_18 (nI 1)))
theorem ktX9_setBase (r0 : Nat) (v1 : Int32) (v2 : Int32) : Ct mX9_setBase rI [.ref r0, .int v1, .int v2] (fX9_setBase r0 v1 v2) := Ct.of (z := 3) pn_X9 rfl rfl rfl (sX9_setBase r0 v1 v2)
def mX9_setClass : MI := (yX9_setClass, cX9_setClass, 10, (some .int), { frames := 5, cells := 0, slots := 0, locals := 115 }, [])
theorem mw_X9_setClass : MW mX9_setClass 4 := ⟨w1454, w11, ⟨by decide, by decide⟩, by decide +kernel⟩
theorem mv_X9_setClass : MV mX9_setClass 9 := ⟨_, rfl, w1452, w1453⟩
def fX9_setClass_152  (r0 : Nat) (v1 : Int32) (v2 : Int32) (v3 : Int32) (v4 : Int32) (s0 : Nat) (s1 : Int32) : AH → Option (Int32 × AH) := fun h =>
  cv 9 s0 (fX9_refused s0 s1) h fun x_23 h =>
  if x_23 = 0 then (
    bd (fX9_at v1 v2 h) fun x_24 h =>
    bd (fX9_placeOf v3 h) fun x_25 h =>
    (gP 9 r0 0 h).bind fun a_26 =>
    (ldI a_26 (x_24 + x_25) h).bind fun x_27 =>
    cv 9 r0 (fX9_saves r0) h fun _ h =>
    (gP 9 r0 0 h).bind fun a_28 =>
    (stI a_28 (x_24 + x_25) v4 h).bind fun h =>
    some (x_27, h))
  else
  some ((nI 0), h)
def fX9_setClass_121  (r0 : Nat) (v1 : Int32) (v2 : Int32) (v3 : Int32) (v4 : Int32) (v5 : Int32) (v6 : Int32) (s0 : Int32) : AH → Option (Int32 × AH) := fun h =>
  if v5 = 0 then (
    fX9_setClass_152 r0 v1 v2 v3 v4 r0 (nI 1) h)
  else
  if v6 = 0 then (
    fX9_setClass_152 r0 v1 v2 v3 v4 r0 (nI 2) h)
  else
  if s0 = 0 then (
    fX9_setClass_152 r0 v1 v2 v3 v4 r0 (nI 3) h)
  else
  fX9_setClass_152 r0 v1 v2 v3 v4 r0 (nI 0) h
def fX9_setClass_120  (r0 : Nat) (v1 : Int32) (v2 : Int32) (v3 : Int32) (v4 : Int32) (v5 : Int32) (v6 : Int32) : AH → Option (Int32 × AH) := fun h =>
  fX9_setClass_121 r0 v1 v2 v3 v4 v5 v6 (nI 0) h
def fX9_setClass_97  (r0 : Nat) (v1 : Int32) (v2 : Int32) (v3 : Int32) (v4 : Int32) (v5 : Int32) (v6 : Int32) : AH → Option (Int32 × AH) := fun h =>
  if v3 = (nI 2) then (
    if v4 = 0 then (
      cv 9 r0 (fX9_hasAbstract r0 v1 v2) h fun x_29 h =>
      if x_29 = 0 then (
        fX9_setClass_121 r0 v1 v2 v3 v4 v5 v6 (nI 1) h)
      else
      fX9_setClass_120 r0 v1 v2 v3 v4 v5 v6 h)
    else
    fX9_setClass_121 r0 v1 v2 v3 v4 v5 v6 (nI 1) h)
  else
  fX9_setClass_121 r0 v1 v2 v3 v4 v5 v6 (nI 1) h
def fX9_setClass_70  (r0 : Nat) (v1 : Int32) (v2 : Int32) (v3 : Int32) (v4 : Int32) (v5 : Int32) (v6 : Int32) (s0 : Int32) : AH → Option (Int32 × AH) := fun h =>
  if s0 = 0 then (
    fX9_setClass_120 r0 v1 v2 v3 v4 v5 v6 h)
  else
  if v3 = (nI 1) then (
    if v4 = (nI 1) then (
      cv 9 r0 (fX9_isAbove r0 v1 v2) h fun x_30 h =>
      if x_30 = 0 then (
        fX9_setClass_97 r0 v1 v2 v3 v4 v5 v6 h)
      else
      fX9_setClass_120 r0 v1 v2 v3 v4 v5 v6 h)
    else
    fX9_setClass_97 r0 v1 v2 v3 v4 v5 v6 h)
  else
  fX9_setClass_97 r0 v1 v2 v3 v4 v5 v6 h
def fX9_setClass_69  (r0 : Nat) (v1 : Int32) (v2 : Int32) (v3 : Int32) (v4 : Int32) (v5 : Int32) (v6 : Int32) : AH → Option (Int32 × AH) := fun h =>
  fX9_setClass_70 r0 v1 v2 v3 v4 v5 v6 (nI 0) h
def fX9_setClass_30  (r0 : Nat) (v1 : Int32) (v2 : Int32) (v3 : Int32) (v4 : Int32) (v5 : Int32) (s0 : Int32) : AH → Option (Int32 × AH) := fun h =>
  if s0 = 0 then (
    fX9_setClass_69 r0 v1 v2 v3 v4 v5 s0 h)
  else
  if v2 = 0 then (
    fX9_setClass_69 r0 v1 v2 v3 v4 v5 s0 h)
  else
  cv 9 r0 (fX9_isInterface r0 v1 v2) h fun x_31 h =>
  if x_31 = 0 then (
    fX9_setClass_70 r0 v1 v2 v3 v4 v5 s0 (nI 1) h)
  else
  if v3 = (nI 1) then (
    fX9_setClass_69 r0 v1 v2 v3 v4 v5 s0 h)
  else
  if v3 = (nI 2) then (
    fX9_setClass_69 r0 v1 v2 v3 v4 v5 s0 h)
  else
  if v3 = (nI 4) then (
    fX9_setClass_69 r0 v1 v2 v3 v4 v5 s0 h)
  else
  fX9_setClass_70 r0 v1 v2 v3 v4 v5 s0 (nI 1) h
def fX9_setClass_29  (r0 : Nat) (v1 : Int32) (v2 : Int32) (v3 : Int32) (v4 : Int32) (v5 : Int32) : AH → Option (Int32 × AH) := fun h =>
  fX9_setClass_30 r0 v1 v2 v3 v4 v5 (nI 0) h
def fX9_setClass  (r0 : Nat) (v1 : Int32) (v2 : Int32) (v3 : Int32) (v4 : Int32) : AH → Option (Int32 × AH) := fun h =>
  cv 9 r0 (fX9_isClass r0 v1 v2) h fun x_32 h =>
  if x_32 = 0 then (
    fX9_setClass_29 r0 v1 v2 v3 v4 x_32 h)
  else
  cv 9 r0 (fX9_mayBe r0 v1 v2 v3 v4) h fun x_33 h =>
  if x_33 = 0 then (
    fX9_setClass_29 r0 v1 v2 v3 v4 x_32 h)
  else
  fX9_setClass_30 r0 v1 v2 v3 v4 x_32 (nI 1) h
theorem sX9_setClass_152  (r0 : Nat) (v1 : Int32) (v2 : Int32) (v3 : Int32) (v4 : Int32) (s0 : Nat) (s1 : Int32) : Sm mX9_setClass rI 0 0 152 [some (.ref r0), some (.int v1), some (.int v2), some (.int v3), some (.int v4), none, none, none, none, none] [.int s1, .ref s0] (fX9_setClass_152 r0 v1 v2 v3 v4 s0 s1) := by
  unfold fX9_setClass_152
  refine Y_Vi (pc := 152) (st := []) (kc' := 0) (ks' := 0) (ktX9_refused s0 s1) mw_X9_refused mv_X9_refused w1415 (RO.mk rfl rfl rfl rfl) rfl rfl rfl dX9_setClass_152 ⟨rfl, rfl⟩ (fun x_23 => ?_)
  refine S_ifeq (pc := 155) (tgt := 160) dX9_setClass_155 (by decide) ?_ ?_
  · refine S_iload_n (pc := 160) dX9_setClass_160 rfl ?_
    refine S_iload_n (pc := 161) dX9_setClass_161 rfl ?_
    refine Y_Ti (pc := 162) (st := []) (kc' := 0) (ks' := 0) (ktX9_at v1 v2) mw_X9_at w1180 w1179 (RO.mk rfl rfl rfl rfl) rfl rfl rfl dX9_setClass_162 ⟨rfl, rfl⟩ (fun x_24 => ?_)
    refine S_iload_n (pc := 165) dX9_setClass_165 rfl ?_
    refine Y_Ti (pc := 166) (st := [.int x_24]) (kc' := 0) (ks' := 0) (ktX9_placeOf v3) mw_X9_placeOf w1468 w1467 (RO.mk rfl rfl rfl rfl) rfl rfl rfl dX9_setClass_166 ⟨rfl, rfl⟩ (fun x_25 => ?_)
    refine S_iadd (pc := 169) dX9_setClass_169 ?_
    refine Z_istore (pc := 170) (lv' := [some (.ref r0), some (.int v1), some (.int v2), some (.int v3), some (.int v4), none, none, none, some (.int (x_24 + x_25)), none]) dX9_setClass_170 rfl rfl rfl ?_
    refine S_aload_n (pc := 172) dX9_setClass_172 rfl ?_
    refine S_gP (pc := 173) fl_X9_7 rfl dX9_setClass_173 (fun a_26 => ?_)
    refine S_iload (pc := 176) dX9_setClass_176 rfl ?_
    refine S_ldI (pc := 178) dX9_setClass_178 (fun x_27 => ?_)
    refine Z_istore (pc := 179) (lv' := [some (.ref r0), some (.int v1), some (.int v2), some (.int v3), some (.int v4), none, none, none, some (.int (x_24 + x_25)), some (.int x_27)]) dX9_setClass_179 rfl rfl rfl ?_
    refine S_aload_n (pc := 181) dX9_setClass_181 rfl ?_
    refine Y_Vv (pc := 182) (st := []) (kc' := 0) (ks' := 0) (ktX9_saves r0) mw_X9_saves mv_X9_saves w1431 (RO.mk rfl rfl rfl rfl) rfl rfl rfl dX9_setClass_182 ⟨rfl, rfl⟩ ?_
    refine S_aload_n (pc := 185) dX9_setClass_185 rfl ?_
    refine S_gP (pc := 186) fl_X9_7 rfl dX9_setClass_186 (fun a_28 => ?_)
    refine S_iload (pc := 189) dX9_setClass_189 rfl ?_
    refine S_iload (pc := 191) dX9_setClass_191 rfl ?_
    refine S_stI (pc := 193) dX9_setClass_193 ?_
    refine S_iload (pc := 194) dX9_setClass_194 rfl ?_
    exact S_iret (pc := 196) ⟨rfl, rfl⟩ rfl rfl dX9_setClass_196
  · refine S_iconst (pc := 158) (v := (nI 0)) dX9_setClass_158 kI_0 ?_
    exact S_iret (pc := 159) ⟨rfl, rfl⟩ rfl rfl dX9_setClass_159
theorem sX9_setClass_121  (r0 : Nat) (v1 : Int32) (v2 : Int32) (v3 : Int32) (v4 : Int32) (v5 : Int32) (v6 : Int32) (s0 : Int32) : Sm mX9_setClass rI 0 0 121 [some (.ref r0), some (.int v1), some (.int v2), some (.int v3), some (.int v4), some (.int v5), some (.int v6), none, none, none] [.int s0] (fX9_setClass_121 r0 v1 v2 v3 v4 v5 v6 s0) := by
  unfold fX9_setClass_121
  refine Z_istore (pc := 121) (lv' := [some (.ref r0), some (.int v1), some (.int v2), some (.int v3), some (.int v4), some (.int v5), some (.int v6), some (.int s0), none, none]) dX9_setClass_121 rfl rfl rfl ?_
  refine S_aload_n (pc := 123) dX9_setClass_123 rfl ?_
  refine S_iload (pc := 124) dX9_setClass_124 rfl ?_
  refine S_ifne (pc := 126) (tgt := 133) dX9_setClass_126 (by decide) ?_ ?_
  · refine S_iload (pc := 133) dX9_setClass_133 rfl ?_
    refine S_ifne (pc := 135) (tgt := 142) dX9_setClass_135 (by decide) ?_ ?_
    · refine S_iload (pc := 142) dX9_setClass_142 rfl ?_
      refine S_ifne (pc := 144) (tgt := 151) dX9_setClass_144 (by decide) ?_ ?_
      · refine S_iconst (pc := 151) (v := (nI 0)) dX9_setClass_151 kI_0 ?_
        exact (S_lv (lv0 := [some (.ref r0), some (.int v1), some (.int v2), some (.int v3), some (.int v4), none, none, none, none, none]) (And.intro rfl (And.intro rfl (And.intro rfl (And.intro rfl (And.intro rfl trivial))))) (sX9_setClass_152 r0 v1 v2 v3 v4 r0 (nI 0)))
      · refine S_iconst (pc := 147) (v := (nI 3)) dX9_setClass_147 kI_3 ?_
        refine S_goto (pc := 148) (tgt := 152) dX9_setClass_148 (by decide) ?_
        exact (S_lv (lv0 := [some (.ref r0), some (.int v1), some (.int v2), some (.int v3), some (.int v4), none, none, none, none, none]) (And.intro rfl (And.intro rfl (And.intro rfl (And.intro rfl (And.intro rfl trivial))))) (sX9_setClass_152 r0 v1 v2 v3 v4 r0 (nI 3)))
    · refine S_iconst (pc := 138) (v := (nI 2)) dX9_setClass_138 kI_2 ?_
      refine S_goto (pc := 139) (tgt := 152) dX9_setClass_139 (by decide) ?_
      exact (S_lv (lv0 := [some (.ref r0), some (.int v1), some (.int v2), some (.int v3), some (.int v4), none, none, none, none, none]) (And.intro rfl (And.intro rfl (And.intro rfl (And.intro rfl (And.intro rfl trivial))))) (sX9_setClass_152 r0 v1 v2 v3 v4 r0 (nI 2)))
  · refine S_iconst (pc := 129) (v := (nI 1)) dX9_setClass_129 kI_1 ?_
    refine S_goto (pc := 130) (tgt := 152) dX9_setClass_130 (by decide) ?_
    exact (S_lv (lv0 := [some (.ref r0), some (.int v1), some (.int v2), some (.int v3), some (.int v4), none, none, none, none, none]) (And.intro rfl (And.intro rfl (And.intro rfl (And.intro rfl (And.intro rfl trivial))))) (sX9_setClass_152 r0 v1 v2 v3 v4 r0 (nI 1)))
theorem sX9_setClass_120  (r0 : Nat) (v1 : Int32) (v2 : Int32) (v3 : Int32) (v4 : Int32) (v5 : Int32) (v6 : Int32) : Sm mX9_setClass rI 0 0 120 [some (.ref r0), some (.int v1), some (.int v2), some (.int v3), some (.int v4), some (.int v5), some (.int v6), none, none, none] [] (fX9_setClass_120 r0 v1 v2 v3 v4 v5 v6) := by
  unfold fX9_setClass_120
  refine S_iconst (pc := 120) (v := (nI 0)) dX9_setClass_120 kI_0 ?_
  exact (sX9_setClass_121 r0 v1 v2 v3 v4 v5 v6 (nI 0))
theorem sX9_setClass_97  (r0 : Nat) (v1 : Int32) (v2 : Int32) (v3 : Int32) (v4 : Int32) (v5 : Int32) (v6 : Int32) : Sm mX9_setClass rI 0 0 97 [some (.ref r0), some (.int v1), some (.int v2), some (.int v3), some (.int v4), some (.int v5), some (.int v6), none, none, none] [] (fX9_setClass_97 r0 v1 v2 v3 v4 v5 v6) := by
  unfold fX9_setClass_97
  refine S_iload_n (pc := 97) dX9_setClass_97 rfl ?_
  refine S_iconst (pc := 98) (v := (nI 2)) dX9_setClass_98 kI_2 ?_
  refine S_icmpne (pc := 99) (tgt := 116) dX9_setClass_99 (by decide) ?_ ?_
  · refine S_iconst (pc := 116) (v := (nI 1)) dX9_setClass_116 kI_1 ?_
    refine S_goto (pc := 117) (tgt := 121) dX9_setClass_117 (by decide) ?_
    exact (sX9_setClass_121 r0 v1 v2 v3 v4 v5 v6 (nI 1))
  · refine S_iload (pc := 102) dX9_setClass_102 rfl ?_
    refine S_ifne (pc := 104) (tgt := 116) dX9_setClass_104 (by decide) ?_ ?_
    · refine S_iconst (pc := 116) (v := (nI 1)) dX9_setClass_116 kI_1 ?_
      refine S_goto (pc := 117) (tgt := 121) dX9_setClass_117 (by decide) ?_
      exact (sX9_setClass_121 r0 v1 v2 v3 v4 v5 v6 (nI 1))
    · refine S_aload_n (pc := 107) dX9_setClass_107 rfl ?_
      refine S_iload_n (pc := 108) dX9_setClass_108 rfl ?_
      refine S_iload_n (pc := 109) dX9_setClass_109 rfl ?_
      refine Y_Vi (pc := 110) (st := []) (kc' := 0) (ks' := 0) (ktX9_hasAbstract r0 v1 v2) mw_X9_hasAbstract mv_X9_hasAbstract w1463 (RO.mk rfl rfl rfl rfl) rfl rfl rfl dX9_setClass_110 ⟨rfl, rfl⟩ (fun x_29 => ?_)
      refine S_ifne (pc := 113) (tgt := 120) dX9_setClass_113 (by decide) ?_ ?_
      · exact (sX9_setClass_120 r0 v1 v2 v3 v4 v5 v6)
      · refine S_iconst (pc := 116) (v := (nI 1)) dX9_setClass_116 kI_1 ?_
        refine S_goto (pc := 117) (tgt := 121) dX9_setClass_117 (by decide) ?_
        exact (sX9_setClass_121 r0 v1 v2 v3 v4 v5 v6 (nI 1))
theorem sX9_setClass_70  (r0 : Nat) (v1 : Int32) (v2 : Int32) (v3 : Int32) (v4 : Int32) (v5 : Int32) (v6 : Int32) (s0 : Int32) : Sm mX9_setClass rI 0 0 70 [some (.ref r0), some (.int v1), some (.int v2), some (.int v3), some (.int v4), some (.int v5), some (.int v6), none, none, none] [.int s0] (fX9_setClass_70 r0 v1 v2 v3 v4 v5 v6 s0) := by
  unfold fX9_setClass_70
  refine Z_istore (pc := 70) (lv' := [some (.ref r0), some (.int v1), some (.int v2), some (.int v3), some (.int v4), some (.int v5), some (.int v6), some (.int s0), none, none]) dX9_setClass_70 rfl rfl rfl ?_
  refine S_iload (pc := 72) dX9_setClass_72 rfl ?_
  refine S_ifeq (pc := 74) (tgt := 120) dX9_setClass_74 (by decide) ?_ ?_
  · exact (S_lv (lv0 := [some (.ref r0), some (.int v1), some (.int v2), some (.int v3), some (.int v4), some (.int v5), some (.int v6), none, none, none]) (And.intro rfl (And.intro rfl (And.intro rfl (And.intro rfl (And.intro rfl (And.intro rfl (And.intro rfl trivial))))))) (sX9_setClass_120 r0 v1 v2 v3 v4 v5 v6))
  · refine S_iload_n (pc := 77) dX9_setClass_77 rfl ?_
    refine S_iconst (pc := 78) (v := (nI 1)) dX9_setClass_78 kI_1 ?_
    refine S_icmpne (pc := 79) (tgt := 97) dX9_setClass_79 (by decide) ?_ ?_
    · exact (S_lv (lv0 := [some (.ref r0), some (.int v1), some (.int v2), some (.int v3), some (.int v4), some (.int v5), some (.int v6), none, none, none]) (And.intro rfl (And.intro rfl (And.intro rfl (And.intro rfl (And.intro rfl (And.intro rfl (And.intro rfl trivial))))))) (sX9_setClass_97 r0 v1 v2 v3 v4 v5 v6))
    · refine S_iload (pc := 82) dX9_setClass_82 rfl ?_
      refine S_iconst (pc := 84) (v := (nI 1)) dX9_setClass_84 kI_1 ?_
      refine S_icmpne (pc := 85) (tgt := 97) dX9_setClass_85 (by decide) ?_ ?_
      · exact (S_lv (lv0 := [some (.ref r0), some (.int v1), some (.int v2), some (.int v3), some (.int v4), some (.int v5), some (.int v6), none, none, none]) (And.intro rfl (And.intro rfl (And.intro rfl (And.intro rfl (And.intro rfl (And.intro rfl (And.intro rfl trivial))))))) (sX9_setClass_97 r0 v1 v2 v3 v4 v5 v6))
      · refine S_aload_n (pc := 88) dX9_setClass_88 rfl ?_
        refine S_iload_n (pc := 89) dX9_setClass_89 rfl ?_
        refine S_iload_n (pc := 90) dX9_setClass_90 rfl ?_
        refine Y_Vi (pc := 91) (st := []) (kc' := 0) (ks' := 0) (ktX9_isAbove r0 v1 v2) mw_X9_isAbove mv_X9_isAbove w1459 (RO.mk rfl rfl rfl rfl) rfl rfl rfl dX9_setClass_91 ⟨rfl, rfl⟩ (fun x_30 => ?_)
        refine S_ifne (pc := 94) (tgt := 120) dX9_setClass_94 (by decide) ?_ ?_
        · exact (S_lv (lv0 := [some (.ref r0), some (.int v1), some (.int v2), some (.int v3), some (.int v4), some (.int v5), some (.int v6), none, none, none]) (And.intro rfl (And.intro rfl (And.intro rfl (And.intro rfl (And.intro rfl (And.intro rfl (And.intro rfl trivial))))))) (sX9_setClass_120 r0 v1 v2 v3 v4 v5 v6))
        · exact (S_lv (lv0 := [some (.ref r0), some (.int v1), some (.int v2), some (.int v3), some (.int v4), some (.int v5), some (.int v6), none, none, none]) (And.intro rfl (And.intro rfl (And.intro rfl (And.intro rfl (And.intro rfl (And.intro rfl (And.intro rfl trivial))))))) (sX9_setClass_97 r0 v1 v2 v3 v4 v5 v6))
theorem sX9_setClass_69  (r0 : Nat) (v1 : Int32) (v2 : Int32) (v3 : Int32) (v4 : Int32) (v5 : Int32) (v6 : Int32) : Sm mX9_setClass rI 0 0 69 [some (.ref r0), some (.int v1), some (.int v2), some (.int v3), some (.int v4), some (.int v5), some (.int v6), none, none, none] [] (fX9_setClass_69 r0 v1 v2 v3 v4 v5 v6) := by
  unfold fX9_setClass_69
  refine S_iconst (pc := 69) (v := (nI 0)) dX9_setClass_69 kI_0 ?_
  exact (sX9_setClass_70 r0 v1 v2 v3 v4 v5 v6 (nI 0))
theorem sX9_setClass_30  (r0 : Nat) (v1 : Int32) (v2 : Int32) (v3 : Int32) (v4 : Int32) (v5 : Int32) (s0 : Int32) : Sm mX9_setClass rI 0 0 30 [some (.ref r0), some (.int v1), some (.int v2), some (.int v3), some (.int v4), some (.int v5), none, none, none, none] [.int s0] (fX9_setClass_30 r0 v1 v2 v3 v4 v5 s0) := by
  unfold fX9_setClass_30
  refine Z_istore (pc := 30) (lv' := [some (.ref r0), some (.int v1), some (.int v2), some (.int v3), some (.int v4), some (.int v5), some (.int s0), none, none, none]) dX9_setClass_30 rfl rfl rfl ?_
  refine S_iload (pc := 32) dX9_setClass_32 rfl ?_
  refine S_ifeq (pc := 34) (tgt := 69) dX9_setClass_34 (by decide) ?_ ?_
  · exact (sX9_setClass_69 r0 v1 v2 v3 v4 v5 s0)
  · refine S_iload_n (pc := 37) dX9_setClass_37 rfl ?_
    refine S_ifeq (pc := 38) (tgt := 69) dX9_setClass_38 (by decide) ?_ ?_
    · exact (sX9_setClass_69 r0 v1 v2 v3 v4 v5 s0)
    · refine S_aload_n (pc := 41) dX9_setClass_41 rfl ?_
      refine S_iload_n (pc := 42) dX9_setClass_42 rfl ?_
      refine S_iload_n (pc := 43) dX9_setClass_43 rfl ?_
      refine Y_Vi (pc := 44) (st := []) (kc' := 0) (ks' := 0) (ktX9_isInterface r0 v1 v2) mw_X9_isInterface mv_X9_isInterface w1282 (RO.mk rfl rfl rfl rfl) rfl rfl rfl dX9_setClass_44 ⟨rfl, rfl⟩ (fun x_31 => ?_)
      refine S_ifeq (pc := 47) (tgt := 65) dX9_setClass_47 (by decide) ?_ ?_
      · refine S_iconst (pc := 65) (v := (nI 1)) dX9_setClass_65 kI_1 ?_
        refine S_goto (pc := 66) (tgt := 70) dX9_setClass_66 (by decide) ?_
        exact (sX9_setClass_70 r0 v1 v2 v3 v4 v5 s0 (nI 1))
      · refine S_iload_n (pc := 50) dX9_setClass_50 rfl ?_
        refine S_iconst (pc := 51) (v := (nI 1)) dX9_setClass_51 kI_1 ?_
        refine S_icmpeq (pc := 52) (tgt := 69) dX9_setClass_52 (by decide) ?_ ?_
        · exact (sX9_setClass_69 r0 v1 v2 v3 v4 v5 s0)
        · refine S_iload_n (pc := 55) dX9_setClass_55 rfl ?_
          refine S_iconst (pc := 56) (v := (nI 2)) dX9_setClass_56 kI_2 ?_
          refine S_icmpeq (pc := 57) (tgt := 69) dX9_setClass_57 (by decide) ?_ ?_
          · exact (sX9_setClass_69 r0 v1 v2 v3 v4 v5 s0)
          · refine S_iload_n (pc := 60) dX9_setClass_60 rfl ?_
            refine S_iconst (pc := 61) (v := (nI 4)) dX9_setClass_61 kI_4 ?_
            refine S_icmpeq (pc := 62) (tgt := 69) dX9_setClass_62 (by decide) ?_ ?_
            · exact (sX9_setClass_69 r0 v1 v2 v3 v4 v5 s0)
            · refine S_iconst (pc := 65) (v := (nI 1)) dX9_setClass_65 kI_1 ?_
              refine S_goto (pc := 66) (tgt := 70) dX9_setClass_66 (by decide) ?_
              exact (sX9_setClass_70 r0 v1 v2 v3 v4 v5 s0 (nI 1))
theorem sX9_setClass_29  (r0 : Nat) (v1 : Int32) (v2 : Int32) (v3 : Int32) (v4 : Int32) (v5 : Int32) : Sm mX9_setClass rI 0 0 29 [some (.ref r0), some (.int v1), some (.int v2), some (.int v3), some (.int v4), some (.int v5), none, none, none, none] [] (fX9_setClass_29 r0 v1 v2 v3 v4 v5) := by
  unfold fX9_setClass_29
  refine S_iconst (pc := 29) (v := (nI 0)) dX9_setClass_29 kI_0 ?_
  exact (sX9_setClass_30 r0 v1 v2 v3 v4 v5 (nI 0))
theorem sX9_setClass  (r0 : Nat) (v1 : Int32) (v2 : Int32) (v3 : Int32) (v4 : Int32) : Sm mX9_setClass rI 0 0 0 [some (.ref r0), some (.int v1), some (.int v2), some (.int v3), some (.int v4), none, none, none, none, none] [] (fX9_setClass r0 v1 v2 v3 v4) := by
  unfold fX9_setClass
  refine S_aload_n (pc := 0) dX9_setClass_0 rfl ?_
  refine S_iload_n (pc := 1) dX9_setClass_1 rfl ?_
  refine S_iload_n (pc := 2) dX9_setClass_2 rfl ?_
  refine Y_Vi (pc := 3) (st := []) (kc' := 0) (ks' := 0) (ktX9_isClass r0 v1 v2) mw_X9_isClass mv_X9_isClass w1209 (RO.mk rfl rfl rfl rfl) rfl rfl rfl dX9_setClass_3 ⟨rfl, rfl⟩ (fun x_32 => ?_)
  refine Z_istore (pc := 6) (lv' := [some (.ref r0), some (.int v1), some (.int v2), some (.int v3), some (.int v4), some (.int x_32), none, none, none, none]) dX9_setClass_6 rfl rfl rfl ?_
  refine S_iload (pc := 8) dX9_setClass_8 rfl ?_
  refine S_ifeq (pc := 10) (tgt := 29) dX9_setClass_10 (by decide) ?_ ?_
  · exact (sX9_setClass_29 r0 v1 v2 v3 v4 x_32)
  · refine S_aload_n (pc := 13) dX9_setClass_13 rfl ?_
    refine S_iload_n (pc := 14) dX9_setClass_14 rfl ?_
    refine S_iload_n (pc := 15) dX9_setClass_15 rfl ?_
    refine S_iload_n (pc := 16) dX9_setClass_16 rfl ?_
    refine S_iload (pc := 17) dX9_setClass_17 rfl ?_
    refine Y_Vi (pc := 19) (st := []) (kc' := 0) (ks' := 0) (ktX9_mayBe r0 v1 v2 v3 v4) mw_X9_mayBe mv_X9_mayBe w1455 (RO.mk rfl rfl rfl rfl) rfl rfl rfl dX9_setClass_19 ⟨rfl, rfl⟩ (fun x_33 => ?_)
    refine S_ifeq (pc := 22) (tgt := 29) dX9_setClass_22 (by decide) ?_ ?_
    · exact (sX9_setClass_29 r0 v1 v2 v3 v4 x_32)
    · refine S_iconst (pc := 25) (v := (nI 1)) dX9_setClass_25 kI_1 ?_
      refine S_goto (pc := 26) (tgt := 30) dX9_setClass_26 (by decide) ?_
      exact (sX9_setClass_30 r0 v1 v2 v3 v4 x_32 (nI 1))
theorem ktX9_setClass (r0 : Nat) (v1 : Int32) (v2 : Int32) (v3 : Int32) (v4 : Int32) : Ct mX9_setClass rI [.ref r0, .int v1, .int v2, .int v3, .int v4] (fX9_setClass r0 v1 v2 v3 v4) := Ct.of (z := 5) pn_X9 rfl rfl rfl (sX9_setClass r0 v1 v2 v3 v4)
def mX9_setMember : MI := (yX9_setMember, cX9_setMember, 8, (some .int), { frames := 5, cells := 0, slots := 0, locals := 116 }, [])
theorem mw_X9_setMember : MW mX9_setMember 4 := ⟨w1521, w11, ⟨by decide, by decide⟩, by decide +kernel⟩
theorem mv_X9_setMember : MV mX9_setMember 9 := ⟨_, rfl, w1519, w1520⟩
def fX9_setMember_67  (r0 : Nat) (v1 : Int32) (v2 : Int32) (v4 : Int32) (s0 : Int32) (s1 : Int32) : AH → Option (Int32 × AH) := fun h =>
  (gP 9 r0 0 h).bind fun a_21 =>
  (ldI a_21 (s0 + s1) h).bind fun x_22 =>
  cv 9 r0 (fX9_saves r0) h fun _ h =>
  (gP 9 r0 0 h).bind fun a_23 =>
  (stI a_23 (s0 + s1) v4 h).bind fun h =>
  cv 9 r0 (fX9_its r0 v1 v2 (nI 4)) h fun x_24 h =>
  if x_24 = (nI 3) then (
    some (x_22, h))
  else
  (gP 9 r0 0 h).bind fun a_25 =>
  bd (fX9_member v1 v2 h) fun x_26 h =>
  (stI a_25 (x_26 + (nI 9)) (-2 : Int32) h).bind fun h =>
  some (x_22, h)
def fX9_setMember_35  (r0 : Nat) (v1 : Int32) (v2 : Int32) (v3 : Int32) (v4 : Int32) (s0 : Nat) (s1 : Int32) : AH → Option (Int32 × AH) := fun h =>
  cv 9 s0 (fX9_refused s0 s1) h fun x_27 h =>
  if x_27 = 0 then (
    bd (fX9_member v1 v2 h) fun x_28 h =>
    if v3 = 0 then (
      fX9_setMember_67 r0 v1 v2 v4 x_28 (nI 3) h)
    else
    if v3 = (nI 1) then (
      fX9_setMember_67 r0 v1 v2 v4 x_28 (nI 4) h)
    else
    fX9_setMember_67 r0 v1 v2 v4 x_28 (nI 9) h)
  else
  some ((nI 0), h)
def fX9_setMember  (r0 : Nat) (v1 : Int32) (v2 : Int32) (v3 : Int32) (v4 : Int32) : AH → Option (Int32 × AH) := fun h =>
  cv 9 r0 (fX9_isMember r0 v1 v2) h fun x_29 h =>
  if x_29 = 0 then (
    fX9_setMember_35 r0 v1 v2 v3 v4 r0 (nI 1) h)
  else
  cv 9 r0 (fX9_maySet r0 v1 v2 v3 v4) h fun x_30 h =>
  if x_30 = 0 then (
    fX9_setMember_35 r0 v1 v2 v3 v4 r0 (nI 2) h)
  else
  fX9_setMember_35 r0 v1 v2 v3 v4 r0 (nI 0) h
theorem sX9_setMember_67  (r0 : Nat) (v1 : Int32) (v2 : Int32) (v4 : Int32) (s0 : Int32) (s1 : Int32) : Sm mX9_setMember rI 0 0 67 [some (.ref r0), some (.int v1), some (.int v2), none, some (.int v4), none, none, none] [.int s1, .int s0] (fX9_setMember_67 r0 v1 v2 v4 s0 s1) := by
  unfold fX9_setMember_67
  refine S_iadd (pc := 67) dX9_setMember_67 ?_
  refine Z_istore (pc := 68) (lv' := [some (.ref r0), some (.int v1), some (.int v2), none, some (.int v4), none, some (.int (s0 + s1)), none]) dX9_setMember_68 rfl rfl rfl ?_
  refine S_aload_n (pc := 70) dX9_setMember_70 rfl ?_
  refine S_gP (pc := 71) fl_X9_7 rfl dX9_setMember_71 (fun a_21 => ?_)
  refine S_iload (pc := 74) dX9_setMember_74 rfl ?_
  refine S_ldI (pc := 76) dX9_setMember_76 (fun x_22 => ?_)
  refine Z_istore (pc := 77) (lv' := [some (.ref r0), some (.int v1), some (.int v2), none, some (.int v4), none, some (.int (s0 + s1)), some (.int x_22)]) dX9_setMember_77 rfl rfl rfl ?_
  refine S_aload_n (pc := 79) dX9_setMember_79 rfl ?_
  refine Y_Vv (pc := 80) (st := []) (kc' := 0) (ks' := 0) (ktX9_saves r0) mw_X9_saves mv_X9_saves w1431 (RO.mk rfl rfl rfl rfl) rfl rfl rfl dX9_setMember_80 ⟨rfl, rfl⟩ ?_
  refine S_aload_n (pc := 83) dX9_setMember_83 rfl ?_
  refine S_gP (pc := 84) fl_X9_7 rfl dX9_setMember_84 (fun a_23 => ?_)
  refine S_iload (pc := 87) dX9_setMember_87 rfl ?_
  refine S_iload (pc := 89) dX9_setMember_89 rfl ?_
  refine S_stI (pc := 91) dX9_setMember_91 ?_
  refine S_aload_n (pc := 92) dX9_setMember_92 rfl ?_
  refine S_iload_n (pc := 93) dX9_setMember_93 rfl ?_
  refine S_iload_n (pc := 94) dX9_setMember_94 rfl ?_
  refine S_iconst (pc := 95) (v := (nI 4)) dX9_setMember_95 kI_4 ?_
  refine Y_Vi (pc := 96) (st := []) (kc' := 0) (ks' := 0) (ktX9_its r0 v1 v2 (nI 4)) mw_X9_its mv_X9_its w1243 (RO.mk rfl rfl rfl rfl) rfl rfl rfl dX9_setMember_96 ⟨rfl, rfl⟩ (fun x_24 => ?_)
  refine S_iconst (pc := 99) (v := (nI 3)) dX9_setMember_99 kI_3 ?_
  refine S_icmpeq (pc := 100) (tgt := 118) dX9_setMember_100 (by decide) ?_ ?_
  · refine S_iload (pc := 118) dX9_setMember_118 rfl ?_
    exact S_iret (pc := 120) ⟨rfl, rfl⟩ rfl rfl dX9_setMember_120
  · refine S_aload_n (pc := 103) dX9_setMember_103 rfl ?_
    refine S_gP (pc := 104) fl_X9_7 rfl dX9_setMember_104 (fun a_25 => ?_)
    refine S_iload_n (pc := 107) dX9_setMember_107 rfl ?_
    refine S_iload_n (pc := 108) dX9_setMember_108 rfl ?_
    refine Y_Ti (pc := 109) (st := [.ref a_25]) (kc' := 0) (ks' := 0) (ktX9_member v1 v2) mw_X9_member w1191 w1190 (RO.mk rfl rfl rfl rfl) rfl rfl rfl dX9_setMember_109 ⟨rfl, rfl⟩ (fun x_26 => ?_)
    refine S_bipush (pc := 112) (v := (nI 9)) dX9_setMember_112 kB_9 ?_
    refine S_iadd (pc := 114) dX9_setMember_114 ?_
    refine S_bipush (pc := 115) (v := (-2 : Int32)) dX9_setMember_115 kB_m2 ?_
    refine S_stI (pc := 117) dX9_setMember_117 ?_
    refine S_iload (pc := 118) dX9_setMember_118 rfl ?_
    exact S_iret (pc := 120) ⟨rfl, rfl⟩ rfl rfl dX9_setMember_120
theorem sX9_setMember_35  (r0 : Nat) (v1 : Int32) (v2 : Int32) (v3 : Int32) (v4 : Int32) (s0 : Nat) (s1 : Int32) : Sm mX9_setMember rI 0 0 35 [some (.ref r0), some (.int v1), some (.int v2), some (.int v3), some (.int v4), none, none, none] [.int s1, .ref s0] (fX9_setMember_35 r0 v1 v2 v3 v4 s0 s1) := by
  unfold fX9_setMember_35
  refine Y_Vi (pc := 35) (st := []) (kc' := 0) (ks' := 0) (ktX9_refused s0 s1) mw_X9_refused mv_X9_refused w1415 (RO.mk rfl rfl rfl rfl) rfl rfl rfl dX9_setMember_35 ⟨rfl, rfl⟩ (fun x_27 => ?_)
  refine S_ifeq (pc := 38) (tgt := 43) dX9_setMember_38 (by decide) ?_ ?_
  · refine S_iload_n (pc := 43) dX9_setMember_43 rfl ?_
    refine S_iload_n (pc := 44) dX9_setMember_44 rfl ?_
    refine Y_Ti (pc := 45) (st := []) (kc' := 0) (ks' := 0) (ktX9_member v1 v2) mw_X9_member w1191 w1190 (RO.mk rfl rfl rfl rfl) rfl rfl rfl dX9_setMember_45 ⟨rfl, rfl⟩ (fun x_28 => ?_)
    refine S_iload_n (pc := 48) dX9_setMember_48 rfl ?_
    refine S_ifne (pc := 49) (tgt := 56) dX9_setMember_49 (by decide) ?_ ?_
    · refine S_iload_n (pc := 56) dX9_setMember_56 rfl ?_
      refine S_iconst (pc := 57) (v := (nI 1)) dX9_setMember_57 kI_1 ?_
      refine S_icmpne (pc := 58) (tgt := 65) dX9_setMember_58 (by decide) ?_ ?_
      · refine S_bipush (pc := 65) (v := (nI 9)) dX9_setMember_65 kB_9 ?_
        exact (S_lv (lv0 := [some (.ref r0), some (.int v1), some (.int v2), none, some (.int v4), none, none, none]) (And.intro rfl (And.intro rfl (And.intro rfl (And.intro rfl trivial)))) (sX9_setMember_67 r0 v1 v2 v4 x_28 (nI 9)))
      · refine S_iconst (pc := 61) (v := (nI 4)) dX9_setMember_61 kI_4 ?_
        refine S_goto (pc := 62) (tgt := 67) dX9_setMember_62 (by decide) ?_
        exact (S_lv (lv0 := [some (.ref r0), some (.int v1), some (.int v2), none, some (.int v4), none, none, none]) (And.intro rfl (And.intro rfl (And.intro rfl (And.intro rfl trivial)))) (sX9_setMember_67 r0 v1 v2 v4 x_28 (nI 4)))
    · refine S_iconst (pc := 52) (v := (nI 3)) dX9_setMember_52 kI_3 ?_
      refine S_goto (pc := 53) (tgt := 67) dX9_setMember_53 (by decide) ?_
      exact (S_lv (lv0 := [some (.ref r0), some (.int v1), some (.int v2), none, some (.int v4), none, none, none]) (And.intro rfl (And.intro rfl (And.intro rfl (And.intro rfl trivial)))) (sX9_setMember_67 r0 v1 v2 v4 x_28 (nI 3)))
  · refine S_iconst (pc := 41) (v := (nI 0)) dX9_setMember_41 kI_0 ?_
    exact S_iret (pc := 42) ⟨rfl, rfl⟩ rfl rfl dX9_setMember_42
theorem sX9_setMember  (r0 : Nat) (v1 : Int32) (v2 : Int32) (v3 : Int32) (v4 : Int32) : Sm mX9_setMember rI 0 0 0 [some (.ref r0), some (.int v1), some (.int v2), some (.int v3), some (.int v4), none, none, none] [] (fX9_setMember r0 v1 v2 v3 v4) := by
  unfold fX9_setMember
  refine S_aload_n (pc := 0) dX9_setMember_0 rfl ?_
  refine S_iload_n (pc := 1) dX9_setMember_1 rfl ?_
  refine S_iload_n (pc := 2) dX9_setMember_2 rfl ?_
  refine Y_Vi (pc := 3) (st := []) (kc' := 0) (ks' := 0) (ktX9_isMember r0 v1 v2) mw_X9_isMember mv_X9_isMember w1514 (RO.mk rfl rfl rfl rfl) rfl rfl rfl dX9_setMember_3 ⟨rfl, rfl⟩ (fun x_29 => ?_)
  refine Z_istore (pc := 6) (lv' := [some (.ref r0), some (.int v1), some (.int v2), some (.int v3), some (.int v4), some (.int x_29), none, none]) dX9_setMember_6 rfl rfl rfl ?_
  refine S_aload_n (pc := 8) dX9_setMember_8 rfl ?_
  refine S_iload (pc := 9) dX9_setMember_9 rfl ?_
  refine S_ifne (pc := 11) (tgt := 18) dX9_setMember_11 (by decide) ?_ ?_
  · refine S_aload_n (pc := 18) dX9_setMember_18 rfl ?_
    refine S_iload_n (pc := 19) dX9_setMember_19 rfl ?_
    refine S_iload_n (pc := 20) dX9_setMember_20 rfl ?_
    refine S_iload_n (pc := 21) dX9_setMember_21 rfl ?_
    refine S_iload (pc := 22) dX9_setMember_22 rfl ?_
    refine Y_Vi (pc := 24) (st := [.ref r0]) (kc' := 0) (ks' := 0) (ktX9_maySet r0 v1 v2 v3 v4) mw_X9_maySet mv_X9_maySet w1522 (RO.mk rfl rfl rfl rfl) rfl rfl rfl dX9_setMember_24 ⟨rfl, rfl⟩ (fun x_30 => ?_)
    refine S_ifne (pc := 27) (tgt := 34) dX9_setMember_27 (by decide) ?_ ?_
    · refine S_iconst (pc := 34) (v := (nI 0)) dX9_setMember_34 kI_0 ?_
      exact (S_lv (lv0 := [some (.ref r0), some (.int v1), some (.int v2), some (.int v3), some (.int v4), none, none, none]) (And.intro rfl (And.intro rfl (And.intro rfl (And.intro rfl (And.intro rfl trivial))))) (sX9_setMember_35 r0 v1 v2 v3 v4 r0 (nI 0)))
    · refine S_iconst (pc := 30) (v := (nI 2)) dX9_setMember_30 kI_2 ?_
      refine S_goto (pc := 31) (tgt := 35) dX9_setMember_31 (by decide) ?_
      exact (S_lv (lv0 := [some (.ref r0), some (.int v1), some (.int v2), some (.int v3), some (.int v4), none, none, none]) (And.intro rfl (And.intro rfl (And.intro rfl (And.intro rfl (And.intro rfl trivial))))) (sX9_setMember_35 r0 v1 v2 v3 v4 r0 (nI 2)))
  · refine S_iconst (pc := 14) (v := (nI 1)) dX9_setMember_14 kI_1 ?_
    refine S_goto (pc := 15) (tgt := 35) dX9_setMember_15 (by decide) ?_
    exact (S_lv (lv0 := [some (.ref r0), some (.int v1), some (.int v2), some (.int v3), some (.int v4), none, none, none]) (And.intro rfl (And.intro rfl (And.intro rfl (And.intro rfl (And.intro rfl trivial))))) (sX9_setMember_35 r0 v1 v2 v3 v4 r0 (nI 1)))
theorem ktX9_setMember (r0 : Nat) (v1 : Int32) (v2 : Int32) (v3 : Int32) (v4 : Int32) : Ct mX9_setMember rI [.ref r0, .int v1, .int v2, .int v3, .int v4] (fX9_setMember r0 v1 v2 v3 v4) := Ct.of (z := 3) pn_X9 rfl rfl rfl (sX9_setMember r0 v1 v2 v3 v4)
def mX9_target : MI := (yX9_target, cX9_target, 3, (some .int), { frames := 10, cells := 0, slots := 0, locals := 247 }, [])
theorem mw_X9_target : MW mX9_target 2 := ⟨w1636, w11, ⟨by decide, by decide⟩, by decide +kernel⟩
theorem mv_X9_target : MV mX9_target 9 := ⟨_, rfl, w1634, w1635⟩
def fX9_target_15  (r0 : Nat) (v1 : Int32) (v2 : Int32) (s0 : Nat) (s1 : Int32) : AH → Option (Int32 × AH) := fun h =>
  cv 9 s0 (fX9_refused s0 s1) h fun x_9 h =>
  if x_9 = 0 then (
    cv 9 r0 (fX9_takes r0 v1) h fun _ h =>
    cv 9 r0 (fX9_linked r0 v2) h fun x_10 h =>
    (gI 9 r0 18 h).bind fun x_11 =>
    some (x_11, h))
  else
  some ((nI 0), h)
def fX9_target  (r0 : Nat) (v1 : Int32) (v2 : Int32) : AH → Option (Int32 × AH) := fun h =>
  cv 9 r0 (fX9_isBoth r0 v1 v2) h fun x_12 h =>
  if x_12 = 0 then (
    fX9_target_15 r0 v1 v2 r0 (nI 1) h)
  else
  fX9_target_15 r0 v1 v2 r0 (nI 0) h
theorem sX9_target_15  (r0 : Nat) (v1 : Int32) (v2 : Int32) (s0 : Nat) (s1 : Int32) : Sm mX9_target rI 0 0 15 [some (.ref r0), some (.int v1), some (.int v2)] [.int s1, .ref s0] (fX9_target_15 r0 v1 v2 s0 s1) := by
  unfold fX9_target_15
  refine Y_Vi (pc := 15) (st := []) (kc' := 0) (ks' := 0) (ktX9_refused s0 s1) mw_X9_refused mv_X9_refused w1415 (RO.mk rfl rfl rfl rfl) rfl rfl rfl dX9_target_15 ⟨rfl, rfl⟩ (fun x_9 => ?_)
  refine S_ifeq (pc := 18) (tgt := 23) dX9_target_18 (by decide) ?_ ?_
  · refine S_aload_n (pc := 23) dX9_target_23 rfl ?_
    refine S_iload_n (pc := 24) dX9_target_24 rfl ?_
    refine Y_Vv (pc := 25) (st := []) (kc' := 0) (ks' := 0) (ktX9_takes r0 v1) mw_X9_takes mv_X9_takes w1585 (RO.mk rfl rfl rfl rfl) rfl rfl rfl dX9_target_25 ⟨rfl, rfl⟩ ?_
    refine S_aload_n (pc := 28) dX9_target_28 rfl ?_
    refine S_iload_n (pc := 29) dX9_target_29 rfl ?_
    refine Y_Vi (pc := 30) (st := []) (kc' := 0) (ks' := 0) (ktX9_linked r0 v2) mw_X9_linked mv_X9_linked w1617 (RO.mk rfl rfl rfl rfl) rfl rfl rfl dX9_target_30 ⟨rfl, rfl⟩ (fun x_10 => ?_)
    refine S_pop (pc := 33) rfl dX9_target_33 ?_
    refine S_aload_n (pc := 34) dX9_target_34 rfl ?_
    refine S_gI (pc := 35) fl_X9_265 rfl dX9_target_35 (fun x_11 => ?_)
    exact S_iret (pc := 38) ⟨rfl, rfl⟩ rfl rfl dX9_target_38
  · refine S_iconst (pc := 21) (v := (nI 0)) dX9_target_21 kI_0 ?_
    exact S_iret (pc := 22) ⟨rfl, rfl⟩ rfl rfl dX9_target_22
theorem sX9_target  (r0 : Nat) (v1 : Int32) (v2 : Int32) : Sm mX9_target rI 0 0 0 [some (.ref r0), some (.int v1), some (.int v2)] [] (fX9_target r0 v1 v2) := by
  unfold fX9_target
  refine S_aload_n (pc := 0) dX9_target_0 rfl ?_
  refine S_aload_n (pc := 1) dX9_target_1 rfl ?_
  refine S_iload_n (pc := 2) dX9_target_2 rfl ?_
  refine S_iload_n (pc := 3) dX9_target_3 rfl ?_
  refine Y_Vi (pc := 4) (st := [.ref r0]) (kc' := 0) (ks' := 0) (ktX9_isBoth r0 v1 v2) mw_X9_isBoth mv_X9_isBoth w1609 (RO.mk rfl rfl rfl rfl) rfl rfl rfl dX9_target_4 ⟨rfl, rfl⟩ (fun x_12 => ?_)
  refine S_ifeq (pc := 7) (tgt := 14) dX9_target_7 (by decide) ?_ ?_
  · refine S_iconst (pc := 14) (v := (nI 1)) dX9_target_14 kI_1 ?_
    exact (sX9_target_15 r0 v1 v2 r0 (nI 1))
  · refine S_iconst (pc := 10) (v := (nI 0)) dX9_target_10 kI_0 ?_
    refine S_goto (pc := 11) (tgt := 15) dX9_target_11 (by decide) ?_
    exact (sX9_target_15 r0 v1 v2 r0 (nI 0))
theorem ktX9_target (r0 : Nat) (v1 : Int32) (v2 : Int32) : Ct mX9_target rI [.ref r0, .int v1, .int v2] (fX9_target r0 v1 v2) := Ct.of (z := 0) pn_X9 rfl rfl rfl (sX9_target r0 v1 v2)
def mX9_thrown : MI := (yX9_thrown, cX9_thrown, 1, (some .int), { frames := 0, cells := 0, slots := 0, locals := 0 }, [])
theorem mw_X9_thrown : MW mX9_thrown 0 := ⟨w1410, w11, ⟨by decide, by decide⟩, by decide +kernel⟩
theorem mv_X9_thrown : MV mX9_thrown 9 := ⟨_, rfl, w1408, w1409⟩
def fX9_thrown  (r0 : Nat) : AH → Option (Int32 × AH) := fun h =>
  (gI 9 r0 3 h).bind fun x_2 =>
  some (x_2, h)
theorem sX9_thrown  (r0 : Nat) : Sm mX9_thrown rI 0 0 0 [some (.ref r0)] [] (fX9_thrown r0) := by
  unfold fX9_thrown
  refine S_aload_n (pc := 0) dX9_thrown_0 rfl ?_
  refine S_gI (pc := 1) fl_X9_55 rfl dX9_thrown_1 (fun x_2 => ?_)
  exact S_iret (pc := 4) ⟨rfl, rfl⟩ rfl rfl dX9_thrown_4
theorem ktX9_thrown (r0 : Nat) : Ct mX9_thrown rI [.ref r0] (fX9_thrown r0) := Ct.of (z := 0) pn_X9 rfl rfl rfl (sX9_thrown r0)
def mX9_undo : MI := (yX9_undo, cX9_undo, 2, (some .int), { frames := 1, cells := 0, slots := 0, locals := 21 }, [])
theorem mw_X9_undo : MW mX9_undo 0 := ⟨w1414, w11, ⟨by decide, by decide⟩, by decide +kernel⟩
theorem mv_X9_undo : MV mX9_undo 9 := ⟨_, rfl, w1412, w1413⟩
def bX9_undo_33  (k33 : Nat → Int32 → AH → Option (Int32 × AH)) (r0 : Nat) (v1 : Int32) : AH → Option (Int32 × AH) := fun h =>
  if (nI 1155) ≤ v1 then (
    (gI 9 r0 2 h).bind fun x_17 =>
    some (x_17, h))
  else
  (gP 9 r0 0 h).bind fun a_18 =>
  (gP 9 r0 1 h).bind fun a_19 =>
  (gI 9 r0 2 h).bind fun x_20 =>
  (ldI a_19 (((nI 1155) * x_20) + v1) h).bind fun x_21 =>
  (stI a_18 v1 x_21 h).bind fun h =>
  k33 r0 (v1 + (nI 1)) h
def lX9_undo_33  : Nat → Nat → Int32 → AH → Option (Int32 × AH)
  | 0 => fun _ _ _ => none
  | n + 1 => bX9_undo_33 (lX9_undo_33 n)
def fX9_undo_13  (r0 : Nat) (s0 : Nat) (s1 : Int32) : AH → Option (Int32 × AH) := fun h =>
  cv 9 s0 (fX9_refused s0 s1) h fun x_22 h =>
  if x_22 = 0 then (
    (gI 9 r0 2 h).bind fun x_23 =>
    (pI 9 r0 2 (x_23 - (nI 1)) h).bind fun h =>
    lX9_undo_33 fuel r0 (nI 0) h)
  else
  some ((nI 0), h)
def fX9_undo  (r0 : Nat) : AH → Option (Int32 × AH) := fun h =>
  (gI 9 r0 2 h).bind fun x_24 =>
  if x_24 = 0 then (
    fX9_undo_13 r0 r0 (nI 1) h)
  else
  fX9_undo_13 r0 r0 (nI 0) h
theorem sbX9_undo_33  {k33 : Nat → Int32 → AH → Option (Int32 × AH)} (h33 : ∀ (r0 : Nat) (v1 : Int32), Sm mX9_undo rI 0 0 33 [some (.ref r0), some (.int v1)] [] (k33 r0 v1)) (r0 : Nat) (v1 : Int32) : Sm mX9_undo rI 0 0 33 [some (.ref r0), some (.int v1)] [] (bX9_undo_33 k33 r0 v1) := by
  unfold bX9_undo_33
  refine S_iload_n (pc := 33) dX9_undo_33 rfl ?_
  refine S_sipush (pc := 34) (v := (nI 1155)) dX9_undo_34 kS_1155 ?_
  refine S_icmpge (pc := 37) (tgt := 67) dX9_undo_37 (by decide) ?_ ?_
  · refine S_aload_n (pc := 67) dX9_undo_67 rfl ?_
    refine S_gI (pc := 68) fl_X9_59 rfl dX9_undo_68 (fun x_17 => ?_)
    exact S_iret (pc := 71) ⟨rfl, rfl⟩ rfl rfl dX9_undo_71
  · refine S_aload_n (pc := 40) dX9_undo_40 rfl ?_
    refine S_gP (pc := 41) fl_X9_7 rfl dX9_undo_41 (fun a_18 => ?_)
    refine S_iload_n (pc := 44) dX9_undo_44 rfl ?_
    refine S_aload_n (pc := 45) dX9_undo_45 rfl ?_
    refine S_gP (pc := 46) fl_X9_13 rfl dX9_undo_46 (fun a_19 => ?_)
    refine S_sipush (pc := 49) (v := (nI 1155)) dX9_undo_49 kS_1155 ?_
    refine S_aload_n (pc := 52) dX9_undo_52 rfl ?_
    refine S_gI (pc := 53) fl_X9_59 rfl dX9_undo_53 (fun x_20 => ?_)
    refine S_imul (pc := 56) dX9_undo_56 ?_
    refine S_iload_n (pc := 57) dX9_undo_57 rfl ?_
    refine S_iadd (pc := 58) dX9_undo_58 ?_
    refine S_ldI (pc := 59) dX9_undo_59 (fun x_21 => ?_)
    refine S_stI (pc := 60) dX9_undo_60 ?_
    refine Z_iinc (pc := 61) (v := (nI 1)) (lv' := [some (.ref r0), some (.int (v1 + (nI 1)))]) dX9_undo_61 rfl kI_1 rfl rfl rfl ?_
    refine S_goto (pc := 64) (tgt := 33) dX9_undo_64 (by decide) ?_
    exact (h33 r0 (v1 + (nI 1)))
theorem sX9_undo_33  : ∀ (n : Nat) (r0 : Nat) (v1 : Int32), Sm mX9_undo rI 0 0 33 [some (.ref r0), some (.int v1)] [] (lX9_undo_33 n r0 v1)
  | 0, _, _ => S_none
  | n + 1, r0, v1 => sbX9_undo_33 (sX9_undo_33 n) r0 v1
theorem sX9_undo_13  (r0 : Nat) (s0 : Nat) (s1 : Int32) : Sm mX9_undo rI 0 0 13 [some (.ref r0), none] [.int s1, .ref s0] (fX9_undo_13 r0 s0 s1) := by
  unfold fX9_undo_13
  refine Y_Vi (pc := 13) (st := []) (kc' := 0) (ks' := 0) (ktX9_refused s0 s1) mw_X9_refused mv_X9_refused w1415 (RO.mk rfl rfl rfl rfl) rfl rfl rfl dX9_undo_13 ⟨rfl, rfl⟩ (fun x_22 => ?_)
  refine S_ifeq (pc := 16) (tgt := 21) dX9_undo_16 (by decide) ?_ ?_
  · refine S_aload_n (pc := 21) dX9_undo_21 rfl ?_
    refine S_dup (pc := 22) rfl dX9_undo_22 ?_
    refine S_gI (pc := 23) fl_X9_59 rfl dX9_undo_23 (fun x_23 => ?_)
    refine S_iconst (pc := 26) (v := (nI 1)) dX9_undo_26 kI_1 ?_
    refine S_isub (pc := 27) dX9_undo_27 ?_
    refine S_pI (pc := 28) fl_X9_59 rfl rfl dX9_undo_28 ?_
    refine S_iconst (pc := 31) (v := (nI 0)) dX9_undo_31 kI_0 ?_
    refine Z_istore_n (pc := 32) (lv' := [some (.ref r0), some (.int (nI 0))]) dX9_undo_32 rfl rfl rfl ?_
    exact (sX9_undo_33 fuel r0 (nI 0))
  · refine S_iconst (pc := 19) (v := (nI 0)) dX9_undo_19 kI_0 ?_
    exact S_iret (pc := 20) ⟨rfl, rfl⟩ rfl rfl dX9_undo_20
theorem sX9_undo  (r0 : Nat) : Sm mX9_undo rI 0 0 0 [some (.ref r0), none] [] (fX9_undo r0) := by
  unfold fX9_undo
  refine S_aload_n (pc := 0) dX9_undo_0 rfl ?_
  refine S_aload_n (pc := 1) dX9_undo_1 rfl ?_
  refine S_gI (pc := 2) fl_X9_59 rfl dX9_undo_2 (fun x_24 => ?_)
  refine S_ifne (pc := 5) (tgt := 12) dX9_undo_5 (by decide) ?_ ?_
  · refine S_iconst (pc := 12) (v := (nI 0)) dX9_undo_12 kI_0 ?_
    exact (sX9_undo_13 r0 r0 (nI 0))
  · refine S_iconst (pc := 8) (v := (nI 1)) dX9_undo_8 kI_1 ?_
    refine S_goto (pc := 9) (tgt := 13) dX9_undo_9 (by decide) ?_
    exact (sX9_undo_13 r0 r0 (nI 1))
theorem ktX9_undo (r0 : Nat) : Ct mX9_undo rI [.ref r0] (fX9_undo r0) := Ct.of (z := 1) pn_X9 rfl rfl rfl (sX9_undo r0)
def mX9_verdict : MI := (yX9_verdict, cX9_verdict, 2, (some .int), { frames := 11, cells := 0, slots := 0, locals := 269 }, [])
theorem mw_X9_verdict : MW mX9_verdict 1 := ⟨w1640, w11, ⟨by decide, by decide⟩, by decide +kernel⟩
theorem mv_X9_verdict : MV mX9_verdict 9 := ⟨_, rfl, w1638, w1639⟩
def fX9_verdict_14  (r0 : Nat) (v1 : Int32) (s0 : Nat) (s1 : Int32) : AH → Option (Int32 × AH) := fun h =>
  cv 9 s0 (fX9_refused s0 s1) h fun x_7 h =>
  if x_7 = 0 then (
    cv 9 r0 (fX9_takes r0 v1) h fun _ h =>
    cv 9 r0 (fX9_judged r0) h fun x_8 h =>
    some (x_8, h))
  else
  some ((nI 0), h)
def fX9_verdict  (r0 : Nat) (v1 : Int32) : AH → Option (Int32 × AH) := fun h =>
  cv 9 r0 (fX9_isClient r0 v1) h fun x_9 h =>
  if x_9 = 0 then (
    fX9_verdict_14 r0 v1 r0 (nI 1) h)
  else
  fX9_verdict_14 r0 v1 r0 (nI 0) h
theorem sX9_verdict_14  (r0 : Nat) (v1 : Int32) (s0 : Nat) (s1 : Int32) : Sm mX9_verdict rI 0 0 14 [some (.ref r0), some (.int v1)] [.int s1, .ref s0] (fX9_verdict_14 r0 v1 s0 s1) := by
  unfold fX9_verdict_14
  refine Y_Vi (pc := 14) (st := []) (kc' := 0) (ks' := 0) (ktX9_refused s0 s1) mw_X9_refused mv_X9_refused w1415 (RO.mk rfl rfl rfl rfl) rfl rfl rfl dX9_verdict_14 ⟨rfl, rfl⟩ (fun x_7 => ?_)
  refine S_ifeq (pc := 17) (tgt := 22) dX9_verdict_17 (by decide) ?_ ?_
  · refine S_aload_n (pc := 22) dX9_verdict_22 rfl ?_
    refine S_iload_n (pc := 23) dX9_verdict_23 rfl ?_
    refine Y_Vv (pc := 24) (st := []) (kc' := 0) (ks' := 0) (ktX9_takes r0 v1) mw_X9_takes mv_X9_takes w1585 (RO.mk rfl rfl rfl rfl) rfl rfl rfl dX9_verdict_24 ⟨rfl, rfl⟩ ?_
    refine S_aload_n (pc := 27) dX9_verdict_27 rfl ?_
    refine Y_Vi (pc := 28) (st := []) (kc' := 0) (ks' := 0) (ktX9_judged r0) mw_X9_judged mv_X9_judged w1641 (RO.mk rfl rfl rfl rfl) rfl rfl rfl dX9_verdict_28 ⟨rfl, rfl⟩ (fun x_8 => ?_)
    exact S_iret (pc := 31) ⟨rfl, rfl⟩ rfl rfl dX9_verdict_31
  · refine S_iconst (pc := 20) (v := (nI 0)) dX9_verdict_20 kI_0 ?_
    exact S_iret (pc := 21) ⟨rfl, rfl⟩ rfl rfl dX9_verdict_21
theorem sX9_verdict  (r0 : Nat) (v1 : Int32) : Sm mX9_verdict rI 0 0 0 [some (.ref r0), some (.int v1)] [] (fX9_verdict r0 v1) := by
  unfold fX9_verdict
  refine S_aload_n (pc := 0) dX9_verdict_0 rfl ?_
  refine S_aload_n (pc := 1) dX9_verdict_1 rfl ?_
  refine S_iload_n (pc := 2) dX9_verdict_2 rfl ?_
  refine Y_Vi (pc := 3) (st := [.ref r0]) (kc' := 0) (ks' := 0) (ktX9_isClient r0 v1) mw_X9_isClient mv_X9_isClient w1581 (RO.mk rfl rfl rfl rfl) rfl rfl rfl dX9_verdict_3 ⟨rfl, rfl⟩ (fun x_9 => ?_)
  refine S_ifeq (pc := 6) (tgt := 13) dX9_verdict_6 (by decide) ?_ ?_
  · refine S_iconst (pc := 13) (v := (nI 1)) dX9_verdict_13 kI_1 ?_
    exact (sX9_verdict_14 r0 v1 r0 (nI 1))
  · refine S_iconst (pc := 9) (v := (nI 0)) dX9_verdict_9 kI_0 ?_
    refine S_goto (pc := 10) (tgt := 14) dX9_verdict_10 (by decide) ?_
    exact (sX9_verdict_14 r0 v1 r0 (nI 0))
theorem ktX9_verdict (r0 : Nat) (v1 : Int32) : Ct mX9_verdict rI [.ref r0, .int v1] (fX9_verdict r0 v1) := Ct.of (z := 0) pn_X9 rfl rfl rfl (sX9_verdict r0 v1)
