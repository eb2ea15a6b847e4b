def mX1_isBest : MI := (yX1_isBest, cX1_isBest, 5, (some .boolean), { frames := 1, cells := 0, slots := 0, locals := 22 }, [])
theorem mw_X1_isBest : MW mX1_isBest 1 := ⟨w496, w8, ⟨by decide, by decide⟩, by decide +kernel⟩
theorem mv_X1_isBest : MV mX1_isBest 1 := ⟨_, rfl, w495, wp11⟩
def bX1_isBest_10  (k10 : Nat → Int32 → Nat → Int32 → AH → Option (Int32 × AH)) (r0 : Nat) (v1 : Int32) (r2 : Nat) (v3 : Int32) : AH → Option (Int32 × AH) := fun h =>
  (gI 1 r0 3 h).bind fun x_35 =>
  if x_35 ≤ v3 then (
    rz (nI 1) (nI 1) h)
  else
  (gP 1 r0 2 h).bind fun a_36 =>
  (ldI a_36 v3 h).bind fun x_37 =>
  (gP 1 r0 0 h).bind fun a_38 =>
  (gP 4 r2 9 h).bind fun a_39 =>
  (ldI a_39 v1 h).bind fun x_40 =>
  (gP 4 r2 9 h).bind fun a_41 =>
  (ldI a_41 x_37 h).bind fun x_42 =>
  cv 2 a_38 (fX2_fitsType a_38 x_40 x_42) h fun x_43 h =>
  if x_43 = 0 then (
    rz (nI 0) (nI 0) h)
  else
  (gP 1 r0 0 h).bind fun a_44 =>
  (gP 4 r2 10 h).bind fun a_45 =>
  (ldI a_45 v1 h).bind fun x_46 =>
  (gP 4 r2 10 h).bind fun a_47 =>
  (ldI a_47 x_37 h).bind fun x_48 =>
  cv 2 a_44 (fX2_fitsType a_44 x_46 x_48) h fun x_49 h =>
  if x_49 = 0 then (
    rz (nI 0) (nI 0) h)
  else
  k10 r0 v1 r2 (v3 + (nI 1)) h
def lX1_isBest_10  : Nat → Nat → Int32 → Nat → Int32 → AH → Option (Int32 × AH)
  | 0 => fun _ _ _ _ _ => none
  | n + 1 => bX1_isBest_10 (lX1_isBest_10 n)
def fX1_isBest  (r0 : Nat) (v1 : Int32) : AH → Option (Int32 × AH) := fun h =>
  (gP 1 r0 0 h).bind fun a_50 =>
  (gP 2 a_50 10 h).bind fun a_51 =>
  lX1_isBest_10 fuel r0 v1 a_51 (nI 0) h
theorem sbX1_isBest_10  {k10 : Nat → Int32 → Nat → Int32 → AH → Option (Int32 × AH)} (h10 : ∀ (r0 : Nat) (v1 : Int32) (r2 : Nat) (v3 : Int32), Sm mX1_isBest rI 0 0 10 [some (.ref r0), some (.int v1), some (.ref r2), some (.int v3), none] [] (k10 r0 v1 r2 v3)) (r0 : Nat) (v1 : Int32) (r2 : Nat) (v3 : Int32) : Sm mX1_isBest rI 0 0 10 [some (.ref r0), some (.int v1), some (.ref r2), some (.int v3), none] [] (bX1_isBest_10 k10 r0 v1 r2 v3) := by
  unfold bX1_isBest_10
  refine S_iload_n (pc := 10) dX1_isBest_10 rfl ?_
  refine S_aload_n (pc := 11) dX1_isBest_11 rfl ?_
  refine S_gI (pc := 12) fl_X1_22 rfl dX1_isBest_12 (fun x_35 => ?_)
  refine S_icmpge (pc := 15) (tgt := 80) dX1_isBest_15 (by decide) ?_ ?_
  · refine S_iconst (pc := 80) (v := (nI 1)) dX1_isBest_80 kI_1 ?_
    exact S_zret (pc := 81) ⟨rfl, rfl⟩ rfl rfl dX1_isBest_81
  · refine S_aload_n (pc := 18) dX1_isBest_18 rfl ?_
    refine S_gP (pc := 19) fl_X1_18 rfl dX1_isBest_19 (fun a_36 => ?_)
    refine S_iload_n (pc := 22) dX1_isBest_22 rfl ?_
    refine S_ldI (pc := 23) dX1_isBest_23 (fun x_37 => ?_)
    refine Z_istore (pc := 24) (lv' := [some (.ref r0), some (.int v1), some (.ref r2), some (.int v3), some (.int x_37)]) dX1_isBest_24 rfl rfl rfl ?_
    refine S_aload_n (pc := 26) dX1_isBest_26 rfl ?_
    refine S_gP (pc := 27) fl_X1_30 rfl dX1_isBest_27 (fun a_38 => ?_)
    refine S_aload_n (pc := 30) dX1_isBest_30 rfl ?_
    refine S_gP (pc := 31) fl_X1_119 rfl dX1_isBest_31 (fun a_39 => ?_)
    refine S_iload_n (pc := 34) dX1_isBest_34 rfl ?_
    refine S_ldI (pc := 35) dX1_isBest_35 (fun x_40 => ?_)
    refine S_aload_n (pc := 36) dX1_isBest_36 rfl ?_
    refine S_gP (pc := 37) fl_X1_119 rfl dX1_isBest_37 (fun a_41 => ?_)
    refine S_iload (pc := 40) dX1_isBest_40 rfl ?_
    refine S_ldI (pc := 42) dX1_isBest_42 (fun x_42 => ?_)
    refine Y_Vi (pc := 43) (st := []) (kc' := 0) (ks' := 0) (ktX2_fitsType a_38 x_40 x_42) mw_X2_fitsType mv_X2_fitsType w476 (RO.mk rfl rfl rfl rfl) rfl rfl rfl dX1_isBest_43 ⟨rfl, rfl⟩ (fun x_43 => ?_)
    refine S_ifeq (pc := 46) (tgt := 72) dX1_isBest_46 (by decide) ?_ ?_
    · refine S_iconst (pc := 72) (v := (nI 0)) dX1_isBest_72 kI_0 ?_
      exact S_zret (pc := 73) ⟨rfl, rfl⟩ rfl rfl dX1_isBest_73
    · refine S_aload_n (pc := 49) dX1_isBest_49 rfl ?_
      refine S_gP (pc := 50) fl_X1_30 rfl dX1_isBest_50 (fun a_44 => ?_)
      refine S_aload_n (pc := 53) dX1_isBest_53 rfl ?_
      refine S_gP (pc := 54) fl_X1_124 rfl dX1_isBest_54 (fun a_45 => ?_)
      refine S_iload_n (pc := 57) dX1_isBest_57 rfl ?_
      refine S_ldI (pc := 58) dX1_isBest_58 (fun x_46 => ?_)
      refine S_aload_n (pc := 59) dX1_isBest_59 rfl ?_
      refine S_gP (pc := 60) fl_X1_124 rfl dX1_isBest_60 (fun a_47 => ?_)
      refine S_iload (pc := 63) dX1_isBest_63 rfl ?_
      refine S_ldI (pc := 65) dX1_isBest_65 (fun x_48 => ?_)
      refine Y_Vi (pc := 66) (st := []) (kc' := 0) (ks' := 0) (ktX2_fitsType a_44 x_46 x_48) mw_X2_fitsType mv_X2_fitsType w476 (RO.mk rfl rfl rfl rfl) rfl rfl rfl dX1_isBest_66 ⟨rfl, rfl⟩ (fun x_49 => ?_)
      refine S_ifne (pc := 69) (tgt := 74) dX1_isBest_69 (by decide) ?_ ?_
      · refine Z_iinc (pc := 74) (v := (nI 1)) (lv' := [some (.ref r0), some (.int v1), some (.ref r2), some (.int (v3 + (nI 1))), some (.int x_37)]) dX1_isBest_74 rfl kI_1 rfl rfl rfl ?_
        refine S_goto (pc := 77) (tgt := 10) dX1_isBest_77 (by decide) ?_
        exact (S_lv (lv0 := [some (.ref r0), some (.int v1), some (.ref r2), some (.int (v3 + (nI 1))), none]) (And.intro rfl (And.intro rfl (And.intro rfl (And.intro rfl trivial)))) (h10 r0 v1 r2 (v3 + (nI 1))))
      · refine S_iconst (pc := 72) (v := (nI 0)) dX1_isBest_72 kI_0 ?_
        exact S_zret (pc := 73) ⟨rfl, rfl⟩ rfl rfl dX1_isBest_73
theorem sX1_isBest_10  : ∀ (n : Nat) (r0 : Nat) (v1 : Int32) (r2 : Nat) (v3 : Int32), Sm mX1_isBest rI 0 0 10 [some (.ref r0), some (.int v1), some (.ref r2), some (.int v3), none] [] (lX1_isBest_10 n r0 v1 r2 v3)
  | 0, _, _, _, _ => S_none
  | n + 1, r0, v1, r2, v3 => sbX1_isBest_10 (sX1_isBest_10 n) r0 v1 r2 v3
theorem sX1_isBest  (r0 : Nat) (v1 : Int32) : Sm mX1_isBest rI 0 0 0 [some (.ref r0), some (.int v1), none, none, none] [] (fX1_isBest r0 v1) := by
  unfold fX1_isBest
  refine S_aload_n (pc := 0) dX1_isBest_0 rfl ?_
  refine S_gP (pc := 1) fl_X1_30 rfl dX1_isBest_1 (fun a_50 => ?_)
  refine S_gP (pc := 4) fl_X1_86 rfl dX1_isBest_4 (fun a_51 => ?_)
  refine Z_astore_n (pc := 7) (lv' := [some (.ref r0), some (.int v1), some (.ref a_51), none, none]) dX1_isBest_7 rfl rfl rfl ?_
  refine S_iconst (pc := 8) (v := (nI 0)) dX1_isBest_8 kI_0 ?_
  refine Z_istore_n (pc := 9) (lv' := [some (.ref r0), some (.int v1), some (.ref a_51), some (.int (nI 0)), none]) dX1_isBest_9 rfl rfl rfl ?_
  exact (sX1_isBest_10 fuel r0 v1 a_51 (nI 0))
theorem ktX1_isBest (r0 : Nat) (v1 : Int32) : Ct mX1_isBest rI [.ref r0, .int v1] (fX1_isBest r0 v1) := Ct.of (z := 3) pn_X1 rfl rfl rfl (sX1_isBest r0 v1)
def mX1_bestApplicable : MI := (yX1_bestApplicable, cX1_bestApplicable, 6, (some .int), { frames := 2, cells := 0, slots := 0, locals := 46 }, [])
theorem mw_X1_bestApplicable : MW mX1_bestApplicable 0 := ⟨w492, w8, ⟨by decide, by decide⟩, by decide +kernel⟩
theorem mv_X1_bestApplicable : MV mX1_bestApplicable 1 := ⟨_, rfl, w491, wp10⟩
def fX1_bestApplicable_68 (k11 : Nat → Int32 → Int32 → Int32 → Int32 → AH → Option (Int32 × AH)) (r0 : Nat) (v1 : Int32) (v2 : Int32) (v3 : Int32) (v4 : Int32) : AH → Option (Int32 × AH) := fun h =>
  k11 r0 v1 v2 v3 (v4 + (nI 1)) h
def fX1_bestApplicable_47 (k11 : Nat → Int32 → Int32 → Int32 → Int32 → AH → Option (Int32 × AH)) (r0 : Nat) (v1 : Int32) (v2 : Int32) (v3 : Int32) (v4 : Int32) (v5 : Int32) : AH → Option (Int32 × AH) := fun h =>
  (gP 1 r0 0 h).bind fun a_15 =>
  (gP 2 a_15 10 h).bind fun a_16 =>
  cv 4 a_16 (fX4_isAbstract a_16 v5) h fun x_17 h =>
  if x_17 = 0 then (
    fX1_bestApplicable_68 k11 r0 v1 v5 (v3 + (nI 1)) v4 h)
  else
  fX1_bestApplicable_68 k11 r0 v1 v2 v3 v4 h
def bX1_bestApplicable_11  (k11 : Nat → Int32 → Int32 → Int32 → Int32 → AH → Option (Int32 × AH)) (r0 : Nat) (v1 : Int32) (v2 : Int32) (v3 : Int32) (v4 : Int32) : AH → Option (Int32 × AH) := fun h =>
  (gI 1 r0 3 h).bind fun x_18 =>
  if x_18 ≤ v4 then (
    if v3 = (nI 1) then (
      some (v2, h))
    else
    some (v1, h))
  else
  (gP 1 r0 2 h).bind fun a_19 =>
  (ldI a_19 v4 h).bind fun x_20 =>
  cv 1 r0 (fX1_isBest r0 x_20) h fun x_21 h =>
  if x_21 = 0 then (
    fX1_bestApplicable_68 k11 r0 v1 v2 v3 v4 h)
  else
  if v1 = (-2 : Int32) then (
    fX1_bestApplicable_47 k11 r0 x_20 v2 v3 v4 x_20 h)
  else
  fX1_bestApplicable_47 k11 r0 v1 v2 v3 v4 x_20 h
def lX1_bestApplicable_11  : Nat → Nat → Int32 → Int32 → Int32 → Int32 → AH → Option (Int32 × AH)
  | 0 => fun _ _ _ _ _ _ => none
  | n + 1 => bX1_bestApplicable_11 (lX1_bestApplicable_11 n)
def fX1_bestApplicable  (r0 : Nat) : AH → Option (Int32 × AH) := fun h =>
  lX1_bestApplicable_11 fuel r0 (-2 : Int32) (-2 : Int32) (nI 0) (nI 0) h
theorem sX1_bestApplicable_68 {k11 : Nat → Int32 → Int32 → Int32 → Int32 → AH → Option (Int32 × AH)} (h11 : ∀ (r0 : Nat) (v1 : Int32) (v2 : Int32) (v3 : Int32) (v4 : Int32), Sm mX1_bestApplicable rI 0 0 11 [some (.ref r0), some (.int v1), some (.int v2), some (.int v3), some (.int v4), none] [] (k11 r0 v1 v2 v3 v4)) (r0 : Nat) (v1 : Int32) (v2 : Int32) (v3 : Int32) (v4 : Int32) : Sm mX1_bestApplicable rI 0 0 68 [some (.ref r0), some (.int v1), some (.int v2), some (.int v3), some (.int v4), none] [] (fX1_bestApplicable_68 k11 r0 v1 v2 v3 v4) := by
  unfold fX1_bestApplicable_68
  refine Z_iinc (pc := 68) (v := (nI 1)) (lv' := [some (.ref r0), some (.int v1), some (.int v2), some (.int v3), some (.int (v4 + (nI 1))), none]) dX1_bestApplicable_68 rfl kI_1 rfl rfl rfl ?_
  refine S_goto (pc := 71) (tgt := 11) dX1_bestApplicable_71 (by decide) ?_
  exact (h11 r0 v1 v2 v3 (v4 + (nI 1)))
theorem sX1_bestApplicable_47 {k11 : Nat → Int32 → Int32 → Int32 → Int32 → AH → Option (Int32 × AH)} (h11 : ∀ (r0 : Nat) (v1 : Int32) (v2 : Int32) (v3 : Int32) (v4 : Int32), Sm mX1_bestApplicable rI 0 0 11 [some (.ref r0), some (.int v1), some (.int v2), some (.int v3), some (.int v4), none] [] (k11 r0 v1 v2 v3 v4)) (r0 : Nat) (v1 : Int32) (v2 : Int32) (v3 : Int32) (v4 : Int32) (v5 : Int32) : Sm mX1_bestApplicable rI 0 0 47 [some (.ref r0), some (.int v1), some (.int v2), some (.int v3), some (.int v4), some (.int v5)] [] (fX1_bestApplicable_47 k11 r0 v1 v2 v3 v4 v5) := by
  unfold fX1_bestApplicable_47
  refine S_aload_n (pc := 47) dX1_bestApplicable_47 rfl ?_
  refine S_gP (pc := 48) fl_X1_30 rfl dX1_bestApplicable_48 (fun a_15 => ?_)
  refine S_gP (pc := 51) fl_X1_86 rfl dX1_bestApplicable_51 (fun a_16 => ?_)
  refine S_iload (pc := 54) dX1_bestApplicable_54 rfl ?_
  refine Y_Vi (pc := 56) (st := []) (kc' := 0) (ks' := 0) (ktX4_isAbstract a_16 v5) mw_X4_isAbstract mv_X4_isAbstract w497 (RO.mk rfl rfl rfl rfl) rfl rfl rfl dX1_bestApplicable_56 ⟨rfl, rfl⟩ (fun x_17 => ?_)
  refine S_ifne (pc := 59) (tgt := 68) dX1_bestApplicable_59 (by decide) ?_ ?_
  · exact (S_lv (lv0 := [some (.ref r0), some (.int v1), some (.int v2), some (.int v3), some (.int v4), none]) (And.intro rfl (And.intro rfl (And.intro rfl (And.intro rfl (And.intro rfl trivial))))) (sX1_bestApplicable_68 h11 r0 v1 v2 v3 v4))
  · refine S_iload (pc := 62) dX1_bestApplicable_62 rfl ?_
    refine Z_istore_n (pc := 64) (lv' := [some (.ref r0), some (.int v1), some (.int v5), some (.int v3), some (.int v4), some (.int v5)]) dX1_bestApplicable_64 rfl rfl rfl ?_
    refine Z_iinc (pc := 65) (v := (nI 1)) (lv' := [some (.ref r0), some (.int v1), some (.int v5), some (.int (v3 + (nI 1))), some (.int v4), some (.int v5)]) dX1_bestApplicable_65 rfl kI_1 rfl rfl rfl ?_
    exact (S_lv (lv0 := [some (.ref r0), some (.int v1), some (.int v5), some (.int (v3 + (nI 1))), some (.int v4), none]) (And.intro rfl (And.intro rfl (And.intro rfl (And.intro rfl (And.intro rfl trivial))))) (sX1_bestApplicable_68 h11 r0 v1 v5 (v3 + (nI 1)) v4))
theorem sbX1_bestApplicable_11  {k11 : Nat → Int32 → Int32 → Int32 → Int32 → AH → Option (Int32 × AH)} (h11 : ∀ (r0 : Nat) (v1 : Int32) (v2 : Int32) (v3 : Int32) (v4 : Int32), Sm mX1_bestApplicable rI 0 0 11 [some (.ref r0), some (.int v1), some (.int v2), some (.int v3), some (.int v4), none] [] (k11 r0 v1 v2 v3 v4)) (r0 : Nat) (v1 : Int32) (v2 : Int32) (v3 : Int32) (v4 : Int32) : Sm mX1_bestApplicable rI 0 0 11 [some (.ref r0), some (.int v1), some (.int v2), some (.int v3), some (.int v4), none] [] (bX1_bestApplicable_11 k11 r0 v1 v2 v3 v4) := by
  unfold bX1_bestApplicable_11
  refine S_iload (pc := 11) dX1_bestApplicable_11 rfl ?_
  refine S_aload_n (pc := 13) dX1_bestApplicable_13 rfl ?_
  refine S_gI (pc := 14) fl_X1_22 rfl dX1_bestApplicable_14 (fun x_18 => ?_)
  refine S_icmpge (pc := 17) (tgt := 74) dX1_bestApplicable_17 (by decide) ?_ ?_
  · refine S_iload_n (pc := 74) dX1_bestApplicable_74 rfl ?_
    refine S_iconst (pc := 75) (v := (nI 1)) dX1_bestApplicable_75 kI_1 ?_
    refine S_icmpne (pc := 76) (tgt := 83) dX1_bestApplicable_76 (by decide) ?_ ?_
    · refine S_iload_n (pc := 83) dX1_bestApplicable_83 rfl ?_
      exact S_iret (pc := 84) ⟨rfl, rfl⟩ rfl rfl dX1_bestApplicable_84
    · refine S_iload_n (pc := 79) dX1_bestApplicable_79 rfl ?_
      refine S_goto (pc := 80) (tgt := 84) dX1_bestApplicable_80 (by decide) ?_
      exact S_iret (pc := 84) ⟨rfl, rfl⟩ rfl rfl dX1_bestApplicable_84
  · refine S_aload_n (pc := 20) dX1_bestApplicable_20 rfl ?_
    refine S_gP (pc := 21) fl_X1_18 rfl dX1_bestApplicable_21 (fun a_19 => ?_)
    refine S_iload (pc := 24) dX1_bestApplicable_24 rfl ?_
    refine S_ldI (pc := 26) dX1_bestApplicable_26 (fun x_20 => ?_)
    refine Z_istore (pc := 27) (lv' := [some (.ref r0), some (.int v1), some (.int v2), some (.int v3), some (.int v4), some (.int x_20)]) dX1_bestApplicable_27 rfl rfl rfl ?_
    refine S_aload_n (pc := 29) dX1_bestApplicable_29 rfl ?_
    refine S_iload (pc := 30) dX1_bestApplicable_30 rfl ?_
    refine Y_Vi (pc := 32) (st := []) (kc' := 0) (ks' := 0) (ktX1_isBest r0 x_20) mw_X1_isBest mv_X1_isBest w493 (RO.mk rfl rfl rfl rfl) rfl rfl rfl dX1_bestApplicable_32 ⟨rfl, rfl⟩ (fun x_21 => ?_)
    refine S_ifeq (pc := 35) (tgt := 68) dX1_bestApplicable_35 (by decide) ?_ ?_
    · exact (S_lv (lv0 := [some (.ref r0), some (.int v1), some (.int v2), some (.int v3), some (.int v4), none]) (And.intro rfl (And.intro rfl (And.intro rfl (And.intro rfl (And.intro rfl trivial))))) (sX1_bestApplicable_68 h11 r0 v1 v2 v3 v4))
    · refine S_iload_n (pc := 38) dX1_bestApplicable_38 rfl ?_
      refine S_bipush (pc := 39) (v := (-2 : Int32)) dX1_bestApplicable_39 kB_m2 ?_
      refine S_icmpne (pc := 41) (tgt := 47) dX1_bestApplicable_41 (by decide) ?_ ?_
      · exact (sX1_bestApplicable_47 h11 r0 v1 v2 v3 v4 x_20)
      · refine S_iload (pc := 44) dX1_bestApplicable_44 rfl ?_
        refine Z_istore_n (pc := 46) (lv' := [some (.ref r0), some (.int x_20), some (.int v2), some (.int v3), some (.int v4), some (.int x_20)]) dX1_bestApplicable_46 rfl rfl rfl ?_
        exact (sX1_bestApplicable_47 h11 r0 x_20 v2 v3 v4 x_20)
theorem sX1_bestApplicable_11  : ∀ (n : Nat) (r0 : Nat) (v1 : Int32) (v2 : Int32) (v3 : Int32) (v4 : Int32), Sm mX1_bestApplicable rI 0 0 11 [some (.ref r0), some (.int v1), some (.int v2), some (.int v3), some (.int v4), none] [] (lX1_bestApplicable_11 n r0 v1 v2 v3 v4)
  | 0, _, _, _, _, _ => S_none
  | n + 1, r0, v1, v2, v3, v4 => sbX1_bestApplicable_11 (sX1_bestApplicable_11 n) r0 v1 v2 v3 v4
theorem sX1_bestApplicable  (r0 : Nat) : Sm mX1_bestApplicable rI 0 0 0 [some (.ref r0), none, none, none, none, none] [] (fX1_bestApplicable r0) := by
  unfold fX1_bestApplicable
  refine S_bipush (pc := 0) (v := (-2 : Int32)) dX1_bestApplicable_0 kB_m2 ?_
  refine Z_istore_n (pc := 2) (lv' := [some (.ref r0), some (.int (-2 : Int32)), none, none, none, none]) dX1_bestApplicable_2 rfl rfl rfl ?_
  refine S_bipush (pc := 3) (v := (-2 : Int32)) dX1_bestApplicable_3 kB_m2 ?_
  refine Z_istore_n (pc := 5) (lv' := [some (.ref r0), some (.int (-2 : Int32)), some (.int (-2 : Int32)), none, none, none]) dX1_bestApplicable_5 rfl rfl rfl ?_
  refine S_iconst (pc := 6) (v := (nI 0)) dX1_bestApplicable_6 kI_0 ?_
  refine Z_istore_n (pc := 7) (lv' := [some (.ref r0), some (.int (-2 : Int32)), some (.int (-2 : Int32)), some (.int (nI 0)), none, none]) dX1_bestApplicable_7 rfl rfl rfl ?_
  refine S_iconst (pc := 8) (v := (nI 0)) dX1_bestApplicable_8 kI_0 ?_
  refine Z_istore (pc := 9) (lv' := [some (.ref r0), some (.int (-2 : Int32)), some (.int (-2 : Int32)), some (.int (nI 0)), some (.int (nI 0)), none]) dX1_bestApplicable_9 rfl rfl rfl ?_
  exact (sX1_bestApplicable_11 fuel r0 (-2 : Int32) (-2 : Int32) (nI 0) (nI 0))
theorem ktX1_bestApplicable (r0 : Nat) : Ct mX1_bestApplicable rI [.ref r0] (fX1_bestApplicable r0) := Ct.of (z := 5) pn_X1 rfl rfl rfl (sX1_bestApplicable r0)
def mX1_isHidden : MI := (yX1_isHidden, cX1_isHidden, 7, (some .boolean), { frames := 0, cells := 0, slots := 0, locals := 0 }, [])
theorem mw_X1_isHidden : MW mX1_isHidden 2 := ⟨w488, w8, ⟨by decide, by decide⟩, by decide +kernel⟩
theorem mv_X1_isHidden : MV mX1_isHidden 1 := ⟨_, rfl, w487, wp9⟩
def fX1_isHidden_99 (k19 : Nat → Int32 → Int32 → Nat → Int32 → Int32 → AH → Option (Int32 × AH)) (r0 : Nat) (v1 : Int32) (v2 : Int32) (r3 : Nat) (v4 : Int32) (v5 : Int32) : AH → Option (Int32 × AH) := fun h =>
  k19 r0 v1 v2 r3 v4 (v5 + (nI 1)) h
def bX1_isHidden_19  (k19 : Nat → Int32 → Int32 → Nat → Int32 → Int32 → AH → Option (Int32 × AH)) (r0 : Nat) (v1 : Int32) (v2 : Int32) (r3 : Nat) (v4 : Int32) (v5 : Int32) : AH → Option (Int32 × AH) := fun h =>
  (gI 4 r3 0 h).bind fun x_33 =>
  if x_33 ≤ v5 then (
    rz (nI 0) (nI 0) h)
  else
  (gP 4 r3 5 h).bind fun a_34 =>
  (ldI a_34 v5 h).bind fun x_35 =>
  (gP 4 r3 11 h).bind fun a_36 =>
  (ldI a_36 v5 h).bind fun x_37 =>
  (gP 4 r3 11 h).bind fun a_38 =>
  (ldI a_38 v1 h).bind fun x_39 =>
  if x_37 = x_39 then (
    if x_35 = v4 then (
      fX1_isHidden_99 k19 r0 v1 v2 r3 v4 v5 h)
    else
    if ((v2 >>> (x_35 &&& 31)) &&& (nI 1)) = 0 then (
      fX1_isHidden_99 k19 r0 v1 v2 r3 v4 v5 h)
    else
    (gP 1 r0 0 h).bind fun a_40 =>
    (gP 2 a_40 8 h).bind fun a_41 =>
    (ldI a_41 x_35 h).bind fun x_42 =>
    if ((x_42 >>> (v4 &&& 31)) &&& (nI 1)) = 0 then (
      fX1_isHidden_99 k19 r0 v1 v2 r3 v4 v5 h)
    else
    (gP 4 r3 1 h).bind fun a_43 =>
    (ldI a_43 v5 h).bind fun x_44 =>
    if x_44 = 0 then (
      fX1_isHidden_99 k19 r0 v1 v2 r3 v4 v5 h)
    else
    rz (nI 1) (nI 1) h)
  else
  fX1_isHidden_99 k19 r0 v1 v2 r3 v4 v5 h
def lX1_isHidden_19  : Nat → Nat → Int32 → Int32 → Nat → Int32 → Int32 → AH → Option (Int32 × AH)
  | 0 => fun _ _ _ _ _ _ _ => none
  | n + 1 => bX1_isHidden_19 (lX1_isHidden_19 n)
def fX1_isHidden  (r0 : Nat) (v1 : Int32) (v2 : Int32) : AH → Option (Int32 × AH) := fun h =>
  (gP 1 r0 0 h).bind fun a_45 =>
  (gP 2 a_45 10 h).bind fun a_46 =>
  (gP 4 a_46 5 h).bind fun a_47 =>
  (ldI a_47 v1 h).bind fun x_48 =>
  lX1_isHidden_19 fuel r0 v1 v2 a_46 x_48 (nI 0) h
theorem sX1_isHidden_99 {k19 : Nat → Int32 → Int32 → Nat → Int32 → Int32 → AH → Option (Int32 × AH)} (h19 : ∀ (r0 : Nat) (v1 : Int32) (v2 : Int32) (r3 : Nat) (v4 : Int32) (v5 : Int32), Sm mX1_isHidden rI 0 0 19 [some (.ref r0), some (.int v1), some (.int v2), some (.ref r3), some (.int v4), some (.int v5), none] [] (k19 r0 v1 v2 r3 v4 v5)) (r0 : Nat) (v1 : Int32) (v2 : Int32) (r3 : Nat) (v4 : Int32) (v5 : Int32) : Sm mX1_isHidden rI 0 0 99 [some (.ref r0), some (.int v1), some (.int v2), some (.ref r3), some (.int v4), some (.int v5), none] [] (fX1_isHidden_99 k19 r0 v1 v2 r3 v4 v5) := by
  unfold fX1_isHidden_99
  refine Z_iinc (pc := 99) (v := (nI 1)) (lv' := [some (.ref r0), some (.int v1), some (.int v2), some (.ref r3), some (.int v4), some (.int (v5 + (nI 1))), none]) dX1_isHidden_99 rfl kI_1 rfl rfl rfl ?_
  refine S_goto (pc := 102) (tgt := 19) dX1_isHidden_102 (by decide) ?_
  exact (h19 r0 v1 v2 r3 v4 (v5 + (nI 1)))
theorem sbX1_isHidden_19  {k19 : Nat → Int32 → Int32 → Nat → Int32 → Int32 → AH → Option (Int32 × AH)} (h19 : ∀ (r0 : Nat) (v1 : Int32) (v2 : Int32) (r3 : Nat) (v4 : Int32) (v5 : Int32), Sm mX1_isHidden rI 0 0 19 [some (.ref r0), some (.int v1), some (.int v2), some (.ref r3), some (.int v4), some (.int v5), none] [] (k19 r0 v1 v2 r3 v4 v5)) (r0 : Nat) (v1 : Int32) (v2 : Int32) (r3 : Nat) (v4 : Int32) (v5 : Int32) : Sm mX1_isHidden rI 0 0 19 [some (.ref r0), some (.int v1), some (.int v2), some (.ref r3), some (.int v4), some (.int v5), none] [] (bX1_isHidden_19 k19 r0 v1 v2 r3 v4 v5) := by
  unfold bX1_isHidden_19
  refine S_iload (pc := 19) dX1_isHidden_19 rfl ?_
  refine S_aload_n (pc := 21) dX1_isHidden_21 rfl ?_
  refine S_gI (pc := 22) fl_X1_138 rfl dX1_isHidden_22 (fun x_33 => ?_)
  refine S_icmpge (pc := 25) (tgt := 105) dX1_isHidden_25 (by decide) ?_ ?_
  · refine S_iconst (pc := 105) (v := (nI 0)) dX1_isHidden_105 kI_0 ?_
    exact S_zret (pc := 106) ⟨rfl, rfl⟩ rfl rfl dX1_isHidden_106
  · refine S_aload_n (pc := 28) dX1_isHidden_28 rfl ?_
    refine S_gP (pc := 29) fl_X1_151 rfl dX1_isHidden_29 (fun a_34 => ?_)
    refine S_iload (pc := 32) dX1_isHidden_32 rfl ?_
    refine S_ldI (pc := 34) dX1_isHidden_34 (fun x_35 => ?_)
    refine Z_istore (pc := 35) (lv' := [some (.ref r0), some (.int v1), some (.int v2), some (.ref r3), some (.int v4), some (.int v5), some (.int x_35)]) dX1_isHidden_35 rfl rfl rfl ?_
    refine S_aload_n (pc := 37) dX1_isHidden_37 rfl ?_
    refine S_gP (pc := 38) fl_X1_168 rfl dX1_isHidden_38 (fun a_36 => ?_)
    refine S_iload (pc := 41) dX1_isHidden_41 rfl ?_
    refine S_ldI (pc := 43) dX1_isHidden_43 (fun x_37 => ?_)
    refine S_aload_n (pc := 44) dX1_isHidden_44 rfl ?_
    refine S_gP (pc := 45) fl_X1_168 rfl dX1_isHidden_45 (fun a_38 => ?_)
    refine S_iload_n (pc := 48) dX1_isHidden_48 rfl ?_
    refine S_ldI (pc := 49) dX1_isHidden_49 (fun x_39 => ?_)
    refine S_icmpne (pc := 50) (tgt := 99) dX1_isHidden_50 (by decide) ?_ ?_
    · exact (S_lv (lv0 := [some (.ref r0), some (.int v1), some (.int v2), some (.ref r3), some (.int v4), some (.int v5), none]) (And.intro rfl (And.intro rfl (And.intro rfl (And.intro rfl (And.intro rfl (And.intro rfl trivial)))))) (sX1_isHidden_99 h19 r0 v1 v2 r3 v4 v5))
    · refine S_iload (pc := 53) dX1_isHidden_53 rfl ?_
      refine S_iload (pc := 55) dX1_isHidden_55 rfl ?_
      refine S_icmpeq (pc := 57) (tgt := 99) dX1_isHidden_57 (by decide) ?_ ?_
      · exact (S_lv (lv0 := [some (.ref r0), some (.int v1), some (.int v2), some (.ref r3), some (.int v4), some (.int v5), none]) (And.intro rfl (And.intro rfl (And.intro rfl (And.intro rfl (And.intro rfl (And.intro rfl trivial)))))) (sX1_isHidden_99 h19 r0 v1 v2 r3 v4 v5))
      · refine S_iload_n (pc := 60) dX1_isHidden_60 rfl ?_
        refine S_iload (pc := 61) dX1_isHidden_61 rfl ?_
        refine S_ishr (pc := 63) dX1_isHidden_63 ?_
        refine S_iconst (pc := 64) (v := (nI 1)) dX1_isHidden_64 kI_1 ?_
        refine S_iand (pc := 65) dX1_isHidden_65 ?_
        refine S_ifeq (pc := 66) (tgt := 99) dX1_isHidden_66 (by decide) ?_ ?_
        · exact (S_lv (lv0 := [some (.ref r0), some (.int v1), some (.int v2), some (.ref r3), some (.int v4), some (.int v5), none]) (And.intro rfl (And.intro rfl (And.intro rfl (And.intro rfl (And.intro rfl (And.intro rfl trivial)))))) (sX1_isHidden_99 h19 r0 v1 v2 r3 v4 v5))
        · refine S_aload_n (pc := 69) dX1_isHidden_69 rfl ?_
          refine S_gP (pc := 70) fl_X1_30 rfl dX1_isHidden_70 (fun a_40 => ?_)
          refine S_gP (pc := 73) fl_X1_135 rfl dX1_isHidden_73 (fun a_41 => ?_)
          refine S_iload (pc := 76) dX1_isHidden_76 rfl ?_
          refine S_ldI (pc := 78) dX1_isHidden_78 (fun x_42 => ?_)
          refine S_iload (pc := 79) dX1_isHidden_79 rfl ?_
          refine S_ishr (pc := 81) dX1_isHidden_81 ?_
          refine S_iconst (pc := 82) (v := (nI 1)) dX1_isHidden_82 kI_1 ?_
          refine S_iand (pc := 83) dX1_isHidden_83 ?_
          refine S_ifeq (pc := 84) (tgt := 99) dX1_isHidden_84 (by decide) ?_ ?_
          · exact (S_lv (lv0 := [some (.ref r0), some (.int v1), some (.int v2), some (.ref r3), some (.int v4), some (.int v5), none]) (And.intro rfl (And.intro rfl (And.intro rfl (And.intro rfl (And.intro rfl (And.intro rfl trivial)))))) (sX1_isHidden_99 h19 r0 v1 v2 r3 v4 v5))
          · refine S_aload_n (pc := 87) dX1_isHidden_87 rfl ?_
            refine S_gP (pc := 88) fl_X1_162 rfl dX1_isHidden_88 (fun a_43 => ?_)
            refine S_iload (pc := 91) dX1_isHidden_91 rfl ?_
            refine S_ldI (pc := 93) dX1_isHidden_93 (fun x_44 => ?_)
            refine S_ifeq (pc := 94) (tgt := 99) dX1_isHidden_94 (by decide) ?_ ?_
            · exact (S_lv (lv0 := [some (.ref r0), some (.int v1), some (.int v2), some (.ref r3), some (.int v4), some (.int v5), none]) (And.intro rfl (And.intro rfl (And.intro rfl (And.intro rfl (And.intro rfl (And.intro rfl trivial)))))) (sX1_isHidden_99 h19 r0 v1 v2 r3 v4 v5))
            · refine S_iconst (pc := 97) (v := (nI 1)) dX1_isHidden_97 kI_1 ?_
              exact S_zret (pc := 98) ⟨rfl, rfl⟩ rfl rfl dX1_isHidden_98
theorem sX1_isHidden_19  : ∀ (n : Nat) (r0 : Nat) (v1 : Int32) (v2 : Int32) (r3 : Nat) (v4 : Int32) (v5 : Int32), Sm mX1_isHidden rI 0 0 19 [some (.ref r0), some (.int v1), some (.int v2), some (.ref r3), some (.int v4), some (.int v5), none] [] (lX1_isHidden_19 n r0 v1 v2 r3 v4 v5)
  | 0, _, _, _, _, _, _ => S_none
  | n + 1, r0, v1, v2, r3, v4, v5 => sbX1_isHidden_19 (sX1_isHidden_19 n) r0 v1 v2 r3 v4 v5
theorem sX1_isHidden  (r0 : Nat) (v1 : Int32) (v2 : Int32) : Sm mX1_isHidden rI 0 0 0 [some (.ref r0), some (.int v1), some (.int v2), none, none, none, none] [] (fX1_isHidden r0 v1 v2) := by
  unfold fX1_isHidden
  refine S_aload_n (pc := 0) dX1_isHidden_0 rfl ?_
  refine S_gP (pc := 1) fl_X1_30 rfl dX1_isHidden_1 (fun a_45 => ?_)
  refine S_gP (pc := 4) fl_X1_86 rfl dX1_isHidden_4 (fun a_46 => ?_)
  refine Z_astore_n (pc := 7) (lv' := [some (.ref r0), some (.int v1), some (.int v2), some (.ref a_46), none, none, none]) dX1_isHidden_7 rfl rfl rfl ?_
  refine S_aload_n (pc := 8) dX1_isHidden_8 rfl ?_
  refine S_gP (pc := 9) fl_X1_151 rfl dX1_isHidden_9 (fun a_47 => ?_)
  refine S_iload_n (pc := 12) dX1_isHidden_12 rfl ?_
  refine S_ldI (pc := 13) dX1_isHidden_13 (fun x_48 => ?_)
  refine Z_istore (pc := 14) (lv' := [some (.ref r0), some (.int v1), some (.int v2), some (.ref a_46), some (.int x_48), none, none]) dX1_isHidden_14 rfl rfl rfl ?_
  refine S_iconst (pc := 16) (v := (nI 0)) dX1_isHidden_16 kI_0 ?_
  refine Z_istore (pc := 17) (lv' := [some (.ref r0), some (.int v1), some (.int v2), some (.ref a_46), some (.int x_48), some (.int (nI 0)), none]) dX1_isHidden_17 rfl rfl rfl ?_
  exact (sX1_isHidden_19 fuel r0 v1 v2 a_46 x_48 (nI 0))
theorem ktX1_isHidden (r0 : Nat) (v1 : Int32) (v2 : Int32) : Ct mX1_isHidden rI [.ref r0, .int v1, .int v2] (fX1_isHidden r0 v1 v2) := Ct.of (z := 4) pn_X1 rfl rfl rfl (sX1_isHidden r0 v1 v2)
def mX1_isCandidate : MI := (yX1_isCandidate, cX1_isCandidate, 5, (some .boolean), { frames := 1, cells := 0, slots := 0, locals := 26 }, [])
theorem mw_X1_isCandidate : MW mX1_isCandidate 2 := ⟨w483, w8, ⟨by decide, by decide⟩, by decide +kernel⟩
theorem mv_X1_isCandidate : MV mX1_isCandidate 1 := ⟨_, rfl, w482, wp8⟩
def fX1_isCandidate_73  (r0 : Nat) (v1 : Int32) (r2 : Nat) : AH → Option (Int32 × AH) := fun h =>
  (gP 1 r0 0 h).bind fun a_37 =>
  (gP 2 a_37 8 h).bind fun a_38 =>
  (gI 0 r2 1 h).bind fun x_39 =>
  (ldI a_38 x_39 h).bind fun x_40 =>
  cv 1 r0 (fX1_isHidden r0 v1 x_40) h fun x_41 h =>
  if x_41 = 0 then (
    rz (nI 1) (nI 1) h)
  else
  rz (nI 0) (nI 0) h
def fX1_isCandidate  (r0 : Nat) (v1 : Int32) (r2 : Nat) : AH → Option (Int32 × AH) := fun h =>
  (gP 1 r0 0 h).bind fun a_42 =>
  (gP 2 a_42 10 h).bind fun a_43 =>
  (gP 4 a_43 5 h).bind fun a_44 =>
  (ldI a_44 v1 h).bind fun x_45 =>
  (gP 4 a_43 1 h).bind fun a_46 =>
  (ldI a_46 v1 h).bind fun x_47 =>
  if x_47 = 0 then (
    rz (nI 0) (nI 0) h)
  else
  (gP 1 r0 0 h).bind fun a_48 =>
  cv 2 a_48 (fX2_isMemberOpen a_48 v1 r2) h fun x_49 h =>
  if x_49 = 0 then (
    rz (nI 0) (nI 0) h)
  else
  (gP 4 a_43 2 h).bind fun a_50 =>
  (ldI a_50 v1 h).bind fun x_51 =>
  if (x_51 &&& (nI 1)) = 0 then (
    fX1_isCandidate_73 r0 v1 r2 h)
  else
  (gP 1 r0 0 h).bind fun a_52 =>
  cv 2 a_52 (fX2_isInterface a_52 x_45) h fun x_53 h =>
  if x_53 = 0 then (
    fX1_isCandidate_73 r0 v1 r2 h)
  else
  (gI 0 r2 1 h).bind fun x_54 =>
  if x_45 = x_54 then (
    fX1_isCandidate_73 r0 v1 r2 h)
  else
  rz (nI 0) (nI 0) h
theorem sX1_isCandidate_73  (r0 : Nat) (v1 : Int32) (r2 : Nat) : Sm mX1_isCandidate rI 0 0 73 [some (.ref r0), some (.int v1), some (.ref r2), none, none] [] (fX1_isCandidate_73 r0 v1 r2) := by
  unfold fX1_isCandidate_73
  refine S_aload_n (pc := 73) dX1_isCandidate_73 rfl ?_
  refine S_iload_n (pc := 74) dX1_isCandidate_74 rfl ?_
  refine S_aload_n (pc := 75) dX1_isCandidate_75 rfl ?_
  refine S_gP (pc := 76) fl_X1_30 rfl dX1_isCandidate_76 (fun a_37 => ?_)
  refine S_gP (pc := 79) fl_X1_135 rfl dX1_isCandidate_79 (fun a_38 => ?_)
  refine S_aload_n (pc := 82) dX1_isCandidate_82 rfl ?_
  refine S_gI (pc := 83) fl_X1_37 rfl dX1_isCandidate_83 (fun x_39 => ?_)
  refine S_ldI (pc := 86) dX1_isCandidate_86 (fun x_40 => ?_)
  refine Y_Vi (pc := 87) (st := []) (kc' := 0) (ks' := 0) (ktX1_isHidden r0 v1 x_40) mw_X1_isHidden mv_X1_isHidden w485 (RO.mk rfl rfl rfl rfl) rfl rfl rfl dX1_isCandidate_87 ⟨rfl, rfl⟩ (fun x_41 => ?_)
  refine S_ifne (pc := 90) (tgt := 97) dX1_isCandidate_90 (by decide) ?_ ?_
  · refine S_iconst (pc := 97) (v := (nI 0)) dX1_isCandidate_97 kI_0 ?_
    exact S_zret (pc := 98) ⟨rfl, rfl⟩ rfl rfl dX1_isCandidate_98
  · refine S_iconst (pc := 93) (v := (nI 1)) dX1_isCandidate_93 kI_1 ?_
    refine S_goto (pc := 94) (tgt := 98) dX1_isCandidate_94 (by decide) ?_
    exact S_zret (pc := 98) ⟨rfl, rfl⟩ rfl rfl dX1_isCandidate_98
theorem sX1_isCandidate  (r0 : Nat) (v1 : Int32) (r2 : Nat) : Sm mX1_isCandidate rI 0 0 0 [some (.ref r0), some (.int v1), some (.ref r2), none, none] [] (fX1_isCandidate r0 v1 r2) := by
  unfold fX1_isCandidate
  refine S_aload_n (pc := 0) dX1_isCandidate_0 rfl ?_
  refine S_gP (pc := 1) fl_X1_30 rfl dX1_isCandidate_1 (fun a_42 => ?_)
  refine S_gP (pc := 4) fl_X1_86 rfl dX1_isCandidate_4 (fun a_43 => ?_)
  refine Z_astore_n (pc := 7) (lv' := [some (.ref r0), some (.int v1), some (.ref r2), some (.ref a_43), none]) dX1_isCandidate_7 rfl rfl rfl ?_
  refine S_aload_n (pc := 8) dX1_isCandidate_8 rfl ?_
  refine S_gP (pc := 9) fl_X1_151 rfl dX1_isCandidate_9 (fun a_44 => ?_)
  refine S_iload_n (pc := 12) dX1_isCandidate_12 rfl ?_
  refine S_ldI (pc := 13) dX1_isCandidate_13 (fun x_45 => ?_)
  refine Z_istore (pc := 14) (lv' := [some (.ref r0), some (.int v1), some (.ref r2), some (.ref a_43), some (.int x_45)]) dX1_isCandidate_14 rfl rfl rfl ?_
  refine S_aload_n (pc := 16) dX1_isCandidate_16 rfl ?_
  refine S_gP (pc := 17) fl_X1_162 rfl dX1_isCandidate_17 (fun a_46 => ?_)
  refine S_iload_n (pc := 20) dX1_isCandidate_20 rfl ?_
  refine S_ldI (pc := 21) dX1_isCandidate_21 (fun x_47 => ?_)
  refine S_ifeq (pc := 22) (tgt := 37) dX1_isCandidate_22 (by decide) ?_ ?_
  · refine S_iconst (pc := 37) (v := (nI 0)) dX1_isCandidate_37 kI_0 ?_
    exact S_zret (pc := 38) ⟨rfl, rfl⟩ rfl rfl dX1_isCandidate_38
  · refine S_aload_n (pc := 25) dX1_isCandidate_25 rfl ?_
    refine S_gP (pc := 26) fl_X1_30 rfl dX1_isCandidate_26 (fun a_48 => ?_)
    refine S_iload_n (pc := 29) dX1_isCandidate_29 rfl ?_
    refine S_aload_n (pc := 30) dX1_isCandidate_30 rfl ?_
    refine Y_Vi (pc := 31) (st := []) (kc' := 0) (ks' := 0) (ktX2_isMemberOpen a_48 v1 r2) mw_X2_isMemberOpen mv_X2_isMemberOpen w464 (RO.mk rfl rfl rfl rfl) rfl rfl rfl dX1_isCandidate_31 ⟨rfl, rfl⟩ (fun x_49 => ?_)
    refine S_ifne (pc := 34) (tgt := 39) dX1_isCandidate_34 (by decide) ?_ ?_
    · refine S_aload_n (pc := 39) dX1_isCandidate_39 rfl ?_
      refine S_gP (pc := 40) fl_X1_90 rfl dX1_isCandidate_40 (fun a_50 => ?_)
      refine S_iload_n (pc := 43) dX1_isCandidate_43 rfl ?_
      refine S_ldI (pc := 44) dX1_isCandidate_44 (fun x_51 => ?_)
      refine S_iconst (pc := 45) (v := (nI 1)) dX1_isCandidate_45 kI_1 ?_
      refine S_iand (pc := 46) dX1_isCandidate_46 ?_
      refine S_ifeq (pc := 47) (tgt := 73) dX1_isCandidate_47 (by decide) ?_ ?_
      · exact (S_lv (lv0 := [some (.ref r0), some (.int v1), some (.ref r2), none, none]) (And.intro rfl (And.intro rfl (And.intro rfl trivial))) (sX1_isCandidate_73 r0 v1 r2))
      · refine S_aload_n (pc := 50) dX1_isCandidate_50 rfl ?_
        refine S_gP (pc := 51) fl_X1_30 rfl dX1_isCandidate_51 (fun a_52 => ?_)
        refine S_iload (pc := 54) dX1_isCandidate_54 rfl ?_
        refine Y_Vi (pc := 56) (st := []) (kc' := 0) (ks' := 0) (ktX2_isInterface a_52 x_45) mw_X2_isInterface mv_X2_isInterface w484 (RO.mk rfl rfl rfl rfl) rfl rfl rfl dX1_isCandidate_56 ⟨rfl, rfl⟩ (fun x_53 => ?_)
        refine S_ifeq (pc := 59) (tgt := 73) dX1_isCandidate_59 (by decide) ?_ ?_
        · exact (S_lv (lv0 := [some (.ref r0), some (.int v1), some (.ref r2), none, none]) (And.intro rfl (And.intro rfl (And.intro rfl trivial))) (sX1_isCandidate_73 r0 v1 r2))
        · refine S_iload (pc := 62) dX1_isCandidate_62 rfl ?_
          refine S_aload_n (pc := 64) dX1_isCandidate_64 rfl ?_
          refine S_gI (pc := 65) fl_X1_37 rfl dX1_isCandidate_65 (fun x_54 => ?_)
          refine S_icmpeq (pc := 68) (tgt := 73) dX1_isCandidate_68 (by decide) ?_ ?_
          · exact (S_lv (lv0 := [some (.ref r0), some (.int v1), some (.ref r2), none, none]) (And.intro rfl (And.intro rfl (And.intro rfl trivial))) (sX1_isCandidate_73 r0 v1 r2))
          · refine S_iconst (pc := 71) (v := (nI 0)) dX1_isCandidate_71 kI_0 ?_
            exact S_zret (pc := 72) ⟨rfl, rfl⟩ rfl rfl dX1_isCandidate_72
    · refine S_iconst (pc := 37) (v := (nI 0)) dX1_isCandidate_37 kI_0 ?_
      exact S_zret (pc := 38) ⟨rfl, rfl⟩ rfl rfl dX1_isCandidate_38
theorem ktX1_isCandidate (r0 : Nat) (v1 : Int32) (r2 : Nat) : Ct mX1_isCandidate rI [.ref r0, .int v1, .ref r2] (fX1_isCandidate r0 v1 r2) := Ct.of (z := 2) pn_X1 rfl rfl rfl (sX1_isCandidate r0 v1 r2)
def mX1_gatherApplicable : MI := (yX1_gatherApplicable, cX1_gatherApplicable, 5, none, { frames := 2, cells := 0, slots := 0, locals := 50 }, [])
theorem mw_X1_gatherApplicable : MW mX1_gatherApplicable 1 := ⟨w475, w8, ⟨by decide, by decide⟩, by decide +kernel⟩
theorem mv_X1_gatherApplicable : MV mX1_gatherApplicable 1 := ⟨_, rfl, w474, wp7⟩
def fX1_gatherApplicable_169 (k29 : Nat → Nat → Nat → Int32 → Int32 → AH → Option (Unit × AH)) (r0 : Nat) (r1 : Nat) (r2 : Nat) (v3 : Int32) (v4 : Int32) : AH → Option (Unit × AH) := fun h =>
  k29 r0 r1 r2 v3 (v4 + (nI 1)) h
def bX1_gatherApplicable_29  (k29 : Nat → Nat → Nat → Int32 → Int32 → AH → Option (Unit × AH)) (r0 : Nat) (r1 : Nat) (r2 : Nat) (v3 : Int32) (v4 : Int32) : AH → Option (Unit × AH) := fun h =>
  (gI 4 r2 0 h).bind fun x_63 =>
  if x_63 ≤ v4 then (
    some ((), h))
  else
  (gP 4 r2 4 h).bind fun a_64 =>
  (ldI a_64 v4 h).bind fun x_65 =>
  if x_65 = (nI 1) then (
    (gP 4 r2 6 h).bind fun a_66 =>
    (ldI a_66 v4 h).bind fun x_67 =>
    (gI 0 r1 2 h).bind fun x_68 =>
    if x_67 = x_68 then (
      (gP 4 r2 8 h).bind fun a_69 =>
      (ldI a_69 v4 h).bind fun x_70 =>
      (gI 0 r1 5 h).bind fun x_71 =>
      if x_70 = x_71 then (
        (gP 4 r2 5 h).bind fun a_72 =>
        (ldI a_72 v4 h).bind fun x_73 =>
        if ((v3 >>> (x_73 &&& 31)) &&& (nI 1)) = 0 then (
          fX1_gatherApplicable_169 k29 r0 r1 r2 v3 v4 h)
        else
        (pZ 1 r0 4 (nI 1) h).bind fun h =>
        (gP 1 r0 0 h).bind fun a_74 =>
        (gI 0 r1 6 h).bind fun x_75 =>
        (gP 4 r2 9 h).bind fun a_76 =>
        (ldI a_76 v4 h).bind fun x_77 =>
        cv 2 a_74 (fX2_fitsType a_74 x_75 x_77) h fun x_78 h =>
        if x_78 = 0 then (
          fX1_gatherApplicable_169 k29 r0 r1 r2 v3 v4 h)
        else
        (gP 1 r0 0 h).bind fun a_79 =>
        (gI 0 r1 7 h).bind fun x_80 =>
        (gP 4 r2 10 h).bind fun a_81 =>
        (ldI a_81 v4 h).bind fun x_82 =>
        cv 2 a_79 (fX2_fitsType a_79 x_80 x_82) h fun x_83 h =>
        if x_83 = 0 then (
          fX1_gatherApplicable_169 k29 r0 r1 r2 v3 v4 h)
        else
        cv 1 r0 (fX1_isCandidate r0 v4 r1) h fun x_84 h =>
        if x_84 = 0 then (
          fX1_gatherApplicable_169 k29 r0 r1 r2 v3 v4 h)
        else
        (gP 1 r0 2 h).bind fun a_85 =>
        (gI 1 r0 3 h).bind fun x_86 =>
        (stI a_85 x_86 v4 h).bind fun h =>
        (gI 1 r0 3 h).bind fun x_87 =>
        (pI 1 r0 3 (x_87 + (nI 1)) h).bind fun h =>
        fX1_gatherApplicable_169 k29 r0 r1 r2 v3 v4 h)
      else
      fX1_gatherApplicable_169 k29 r0 r1 r2 v3 v4 h)
    else
    fX1_gatherApplicable_169 k29 r0 r1 r2 v3 v4 h)
  else
  fX1_gatherApplicable_169 k29 r0 r1 r2 v3 v4 h
def lX1_gatherApplicable_29  : Nat → Nat → Nat → Nat → Int32 → Int32 → AH → Option (Unit × AH)
  | 0 => fun _ _ _ _ _ _ => none
  | n + 1 => bX1_gatherApplicable_29 (lX1_gatherApplicable_29 n)
def fX1_gatherApplicable  (r0 : Nat) (r1 : Nat) : AH → Option (Unit × AH) := fun h =>
  (gP 1 r0 0 h).bind fun a_88 =>
  (gP 2 a_88 10 h).bind fun a_89 =>
  (gP 1 r0 0 h).bind fun a_90 =>
  (gP 2 a_90 8 h).bind fun a_91 =>
  (gI 0 r1 1 h).bind fun x_92 =>
  (ldI a_91 x_92 h).bind fun x_93 =>
  (pI 1 r0 3 (nI 0) h).bind fun h =>
  lX1_gatherApplicable_29 fuel r0 r1 a_89 x_93 (nI 0) h
theorem sX1_gatherApplicable_169 {k29 : Nat → Nat → Nat → Int32 → Int32 → AH → Option (Unit × AH)} (h29 : ∀ (r0 : Nat) (r1 : Nat) (r2 : Nat) (v3 : Int32) (v4 : Int32), Sm mX1_gatherApplicable rV 0 0 29 [some (.ref r0), some (.ref r1), some (.ref r2), some (.int v3), some (.int v4)] [] (k29 r0 r1 r2 v3 v4)) (r0 : Nat) (r1 : Nat) (r2 : Nat) (v3 : Int32) (v4 : Int32) : Sm mX1_gatherApplicable rV 0 0 169 [some (.ref r0), some (.ref r1), some (.ref r2), some (.int v3), some (.int v4)] [] (fX1_gatherApplicable_169 k29 r0 r1 r2 v3 v4) := by
  unfold fX1_gatherApplicable_169
  refine Z_iinc (pc := 169) (v := (nI 1)) (lv' := [some (.ref r0), some (.ref r1), some (.ref r2), some (.int v3), some (.int (v4 + (nI 1)))]) dX1_gatherApplicable_169 rfl kI_1 rfl rfl rfl ?_
  refine S_goto (pc := 172) (tgt := 29) dX1_gatherApplicable_172 (by decide) ?_
  exact (h29 r0 r1 r2 v3 (v4 + (nI 1)))
theorem sbX1_gatherApplicable_29  {k29 : Nat → Nat → Nat → Int32 → Int32 → AH → Option (Unit × AH)} (h29 : ∀ (r0 : Nat) (r1 : Nat) (r2 : Nat) (v3 : Int32) (v4 : Int32), Sm mX1_gatherApplicable rV 0 0 29 [some (.ref r0), some (.ref r1), some (.ref r2), some (.int v3), some (.int v4)] [] (k29 r0 r1 r2 v3 v4)) (r0 : Nat) (r1 : Nat) (r2 : Nat) (v3 : Int32) (v4 : Int32) : Sm mX1_gatherApplicable rV 0 0 29 [some (.ref r0), some (.ref r1), some (.ref r2), some (.int v3), some (.int v4)] [] (bX1_gatherApplicable_29 k29 r0 r1 r2 v3 v4) := by
  unfold bX1_gatherApplicable_29
  refine S_iload (pc := 29) dX1_gatherApplicable_29 rfl ?_
  refine S_aload_n (pc := 31) dX1_gatherApplicable_31 rfl ?_
  refine S_gI (pc := 32) fl_X1_138 rfl dX1_gatherApplicable_32 (fun x_63 => ?_)
  refine S_icmpge (pc := 35) (tgt := 175) dX1_gatherApplicable_35 (by decide) ?_ ?_
  · exact S_vret (pc := 175) ⟨rfl, rfl⟩ rfl rfl dX1_gatherApplicable_175
  · refine S_aload_n (pc := 38) dX1_gatherApplicable_38 rfl ?_
    refine S_gP (pc := 39) fl_X1_141 rfl dX1_gatherApplicable_39 (fun a_64 => ?_)
    refine S_iload (pc := 42) dX1_gatherApplicable_42 rfl ?_
    refine S_ldI (pc := 44) dX1_gatherApplicable_44 (fun x_65 => ?_)
    refine S_iconst (pc := 45) (v := (nI 1)) dX1_gatherApplicable_45 kI_1 ?_
    refine S_icmpne (pc := 46) (tgt := 169) dX1_gatherApplicable_46 (by decide) ?_ ?_
    · exact (sX1_gatherApplicable_169 h29 r0 r1 r2 v3 v4)
    · refine S_aload_n (pc := 49) dX1_gatherApplicable_49 rfl ?_
      refine S_gP (pc := 50) fl_X1_144 rfl dX1_gatherApplicable_50 (fun a_66 => ?_)
      refine S_iload (pc := 53) dX1_gatherApplicable_53 rfl ?_
      refine S_ldI (pc := 55) dX1_gatherApplicable_55 (fun x_67 => ?_)
      refine S_aload_n (pc := 56) dX1_gatherApplicable_56 rfl ?_
      refine S_gI (pc := 57) fl_X1_75 rfl dX1_gatherApplicable_57 (fun x_68 => ?_)
      refine S_icmpne (pc := 60) (tgt := 169) dX1_gatherApplicable_60 (by decide) ?_ ?_
      · exact (sX1_gatherApplicable_169 h29 r0 r1 r2 v3 v4)
      · refine S_aload_n (pc := 63) dX1_gatherApplicable_63 rfl ?_
        refine S_gP (pc := 64) fl_X1_146 rfl dX1_gatherApplicable_64 (fun a_69 => ?_)
        refine S_iload (pc := 67) dX1_gatherApplicable_67 rfl ?_
        refine S_ldI (pc := 69) dX1_gatherApplicable_69 (fun x_70 => ?_)
        refine S_aload_n (pc := 70) dX1_gatherApplicable_70 rfl ?_
        refine S_gI (pc := 71) fl_X1_149 rfl dX1_gatherApplicable_71 (fun x_71 => ?_)
        refine S_icmpne (pc := 74) (tgt := 169) dX1_gatherApplicable_74 (by decide) ?_ ?_
        · exact (sX1_gatherApplicable_169 h29 r0 r1 r2 v3 v4)
        · refine S_iload_n (pc := 77) dX1_gatherApplicable_77 rfl ?_
          refine S_aload_n (pc := 78) dX1_gatherApplicable_78 rfl ?_
          refine S_gP (pc := 79) fl_X1_151 rfl dX1_gatherApplicable_79 (fun a_72 => ?_)
          refine S_iload (pc := 82) dX1_gatherApplicable_82 rfl ?_
          refine S_ldI (pc := 84) dX1_gatherApplicable_84 (fun x_73 => ?_)
          refine S_ishr (pc := 85) dX1_gatherApplicable_85 ?_
          refine S_iconst (pc := 86) (v := (nI 1)) dX1_gatherApplicable_86 kI_1 ?_
          refine S_iand (pc := 87) dX1_gatherApplicable_87 ?_
          refine S_ifeq (pc := 88) (tgt := 169) dX1_gatherApplicable_88 (by decide) ?_ ?_
          · exact (sX1_gatherApplicable_169 h29 r0 r1 r2 v3 v4)
          · refine S_aload_n (pc := 91) dX1_gatherApplicable_91 rfl ?_
            refine S_iconst (pc := 92) (v := (nI 1)) dX1_gatherApplicable_92 kI_1 ?_
            refine S_pZ (pc := 93) fl_X1_26 rfl rfl dX1_gatherApplicable_93 ?_
            refine S_aload_n (pc := 96) dX1_gatherApplicable_96 rfl ?_
            refine S_gP (pc := 97) fl_X1_30 rfl dX1_gatherApplicable_97 (fun a_74 => ?_)
            refine S_aload_n (pc := 100) dX1_gatherApplicable_100 rfl ?_
            refine S_gI (pc := 101) fl_X1_154 rfl dX1_gatherApplicable_101 (fun x_75 => ?_)
            refine S_aload_n (pc := 104) dX1_gatherApplicable_104 rfl ?_
            refine S_gP (pc := 105) fl_X1_119 rfl dX1_gatherApplicable_105 (fun a_76 => ?_)
            refine S_iload (pc := 108) dX1_gatherApplicable_108 rfl ?_
            refine S_ldI (pc := 110) dX1_gatherApplicable_110 (fun x_77 => ?_)
            refine Y_Vi (pc := 111) (st := []) (kc' := 0) (ks' := 0) (ktX2_fitsType a_74 x_75 x_77) mw_X2_fitsType mv_X2_fitsType w476 (RO.mk rfl rfl rfl rfl) rfl rfl rfl dX1_gatherApplicable_111 ⟨rfl, rfl⟩ (fun x_78 => ?_)
            refine S_ifeq (pc := 114) (tgt := 169) dX1_gatherApplicable_114 (by decide) ?_ ?_
            · exact (sX1_gatherApplicable_169 h29 r0 r1 r2 v3 v4)
            · refine S_aload_n (pc := 117) dX1_gatherApplicable_117 rfl ?_
              refine S_gP (pc := 118) fl_X1_30 rfl dX1_gatherApplicable_118 (fun a_79 => ?_)
              refine S_aload_n (pc := 121) dX1_gatherApplicable_121 rfl ?_
              refine S_gI (pc := 122) fl_X1_158 rfl dX1_gatherApplicable_122 (fun x_80 => ?_)
              refine S_aload_n (pc := 125) dX1_gatherApplicable_125 rfl ?_
              refine S_gP (pc := 126) fl_X1_124 rfl dX1_gatherApplicable_126 (fun a_81 => ?_)
              refine S_iload (pc := 129) dX1_gatherApplicable_129 rfl ?_
              refine S_ldI (pc := 131) dX1_gatherApplicable_131 (fun x_82 => ?_)
              refine Y_Vi (pc := 132) (st := []) (kc' := 0) (ks' := 0) (ktX2_fitsType a_79 x_80 x_82) mw_X2_fitsType mv_X2_fitsType w476 (RO.mk rfl rfl rfl rfl) rfl rfl rfl dX1_gatherApplicable_132 ⟨rfl, rfl⟩ (fun x_83 => ?_)
              refine S_ifeq (pc := 135) (tgt := 169) dX1_gatherApplicable_135 (by decide) ?_ ?_
              · exact (sX1_gatherApplicable_169 h29 r0 r1 r2 v3 v4)
              · refine S_aload_n (pc := 138) dX1_gatherApplicable_138 rfl ?_
                refine S_iload (pc := 139) dX1_gatherApplicable_139 rfl ?_
                refine S_aload_n (pc := 141) dX1_gatherApplicable_141 rfl ?_
                refine Y_Vi (pc := 142) (st := []) (kc' := 0) (ks' := 0) (ktX1_isCandidate r0 v4 r1) mw_X1_isCandidate mv_X1_isCandidate w480 (RO.mk rfl rfl rfl rfl) rfl rfl rfl dX1_gatherApplicable_142 ⟨rfl, rfl⟩ (fun x_84 => ?_)
                refine S_ifeq (pc := 145) (tgt := 169) dX1_gatherApplicable_145 (by decide) ?_ ?_
                · exact (sX1_gatherApplicable_169 h29 r0 r1 r2 v3 v4)
                · refine S_aload_n (pc := 148) dX1_gatherApplicable_148 rfl ?_
                  refine S_gP (pc := 149) fl_X1_18 rfl dX1_gatherApplicable_149 (fun a_85 => ?_)
                  refine S_aload_n (pc := 152) dX1_gatherApplicable_152 rfl ?_
                  refine S_gI (pc := 153) fl_X1_22 rfl dX1_gatherApplicable_153 (fun x_86 => ?_)
                  refine S_iload (pc := 156) dX1_gatherApplicable_156 rfl ?_
                  refine S_stI (pc := 158) dX1_gatherApplicable_158 ?_
                  refine S_aload_n (pc := 159) dX1_gatherApplicable_159 rfl ?_
                  refine S_dup (pc := 160) rfl dX1_gatherApplicable_160 ?_
                  refine S_gI (pc := 161) fl_X1_22 rfl dX1_gatherApplicable_161 (fun x_87 => ?_)
                  refine S_iconst (pc := 164) (v := (nI 1)) dX1_gatherApplicable_164 kI_1 ?_
                  refine S_iadd (pc := 165) dX1_gatherApplicable_165 ?_
                  refine S_pI (pc := 166) fl_X1_22 rfl rfl dX1_gatherApplicable_166 ?_
                  exact (sX1_gatherApplicable_169 h29 r0 r1 r2 v3 v4)
theorem sX1_gatherApplicable_29  : ∀ (n : Nat) (r0 : Nat) (r1 : Nat) (r2 : Nat) (v3 : Int32) (v4 : Int32), Sm mX1_gatherApplicable rV 0 0 29 [some (.ref r0), some (.ref r1), some (.ref r2), some (.int v3), some (.int v4)] [] (lX1_gatherApplicable_29 n r0 r1 r2 v3 v4)
  | 0, _, _, _, _, _ => S_none
  | n + 1, r0, r1, r2, v3, v4 => sbX1_gatherApplicable_29 (sX1_gatherApplicable_29 n) r0 r1 r2 v3 v4
theorem sX1_gatherApplicable  (r0 : Nat) (r1 : Nat) : Sm mX1_gatherApplicable rV 0 0 0 [some (.ref r0), some (.ref r1), none, none, none] [] (fX1_gatherApplicable r0 r1) := by
  unfold fX1_gatherApplicable
  refine S_aload_n (pc := 0) dX1_gatherApplicable_0 rfl ?_
  refine S_gP (pc := 1) fl_X1_30 rfl dX1_gatherApplicable_1 (fun a_88 => ?_)
  refine S_gP (pc := 4) fl_X1_86 rfl dX1_gatherApplicable_4 (fun a_89 => ?_)
  refine Z_astore_n (pc := 7) (lv' := [some (.ref r0), some (.ref r1), some (.ref a_89), none, none]) dX1_gatherApplicable_7 rfl rfl rfl ?_
  refine S_aload_n (pc := 8) dX1_gatherApplicable_8 rfl ?_
  refine S_gP (pc := 9) fl_X1_30 rfl dX1_gatherApplicable_9 (fun a_90 => ?_)
  refine S_gP (pc := 12) fl_X1_135 rfl dX1_gatherApplicable_12 (fun a_91 => ?_)
  refine S_aload_n (pc := 15) dX1_gatherApplicable_15 rfl ?_
  refine S_gI (pc := 16) fl_X1_37 rfl dX1_gatherApplicable_16 (fun x_92 => ?_)
  refine S_ldI (pc := 19) dX1_gatherApplicable_19 (fun x_93 => ?_)
  refine Z_istore_n (pc := 20) (lv' := [some (.ref r0), some (.ref r1), some (.ref a_89), some (.int x_93), none]) dX1_gatherApplicable_20 rfl rfl rfl ?_
  refine S_aload_n (pc := 21) dX1_gatherApplicable_21 rfl ?_
  refine S_iconst (pc := 22) (v := (nI 0)) dX1_gatherApplicable_22 kI_0 ?_
  refine S_pI (pc := 23) fl_X1_22 rfl rfl dX1_gatherApplicable_23 ?_
  refine S_iconst (pc := 26) (v := (nI 0)) dX1_gatherApplicable_26 kI_0 ?_
  refine Z_istore (pc := 27) (lv' := [some (.ref r0), some (.ref r1), some (.ref a_89), some (.int x_93), some (.int (nI 0))]) dX1_gatherApplicable_27 rfl rfl rfl ?_
  exact (sX1_gatherApplicable_29 fuel r0 r1 a_89 x_93 (nI 0))
theorem ktX1_gatherApplicable (r0 : Nat) (r1 : Nat) : Ct mX1_gatherApplicable rV [.ref r0, .ref r1] (fX1_gatherApplicable r0 r1) := Ct.of (z := 3) pn_X1 rfl rfl rfl (sX1_gatherApplicable r0 r1)
def mX1_callError : MI := (yX1_callError, cX1_callError, 3, (some .int), { frames := 3, cells := 0, slots := 0, locals := 74 }, [])
theorem mw_X1_callError : MW mX1_callError 1 := ⟨w471, w8, ⟨by decide, by decide⟩, by decide +kernel⟩
theorem mv_X1_callError : MV mX1_callError 1 := ⟨_, rfl, w470, wp6⟩
def fX1_callError_128  (s0 : Nat) (s1 : Int32) : AH → Option (Int32 × AH) := fun h =>
  (pI 7 s0 6 s1 h).bind fun h =>
  some ((nI 0), h)
def fX1_callError  (r0 : Nat) (r1 : Nat) : AH → Option (Int32 × AH) := fun h =>
  cv 1 r0 (fX1_gatherApplicable r0 r1) h fun _ h =>
  (gI 1 r0 3 h).bind fun x_53 =>
  if x_53 = 0 then (
    some ((nI 3), h))
  else
  cv 1 r0 (fX1_bestApplicable r0) h fun x_54 h =>
  if x_54 = (-2 : Int32) then (
    some ((nI 4), h))
  else
  (gP 1 r0 1 h).bind fun a_55 =>
  (gP 1 r0 0 h).bind fun a_56 =>
  (gP 2 a_56 10 h).bind fun a_57 =>
  (gP 4 a_57 7 h).bind fun a_58 =>
  (ldI a_58 x_54 h).bind fun x_59 =>
  (pI 7 a_55 2 x_59 h).bind fun h =>
  (gP 1 r0 1 h).bind fun a_60 =>
  (gP 1 r0 0 h).bind fun a_61 =>
  (gP 2 a_61 10 h).bind fun a_62 =>
  (gP 4 a_62 9 h).bind fun a_63 =>
  (ldI a_63 x_54 h).bind fun x_64 =>
  (pI 7 a_60 4 x_64 h).bind fun h =>
  (gP 1 r0 1 h).bind fun a_65 =>
  (gP 1 r0 0 h).bind fun a_66 =>
  (gP 2 a_66 10 h).bind fun a_67 =>
  (gP 4 a_67 10 h).bind fun a_68 =>
  (ldI a_68 x_54 h).bind fun x_69 =>
  (pI 7 a_65 5 x_69 h).bind fun h =>
  (gP 1 r0 1 h).bind fun a_70 =>
  (gP 1 r0 0 h).bind fun a_71 =>
  (gP 2 a_71 10 h).bind fun a_72 =>
  (gP 4 a_72 2 h).bind fun a_73 =>
  (ldI a_73 x_54 h).bind fun x_74 =>
  (pI 7 a_70 3 (x_74 &&& (nI 1)) h).bind fun h =>
  (gP 1 r0 1 h).bind fun a_75 =>
  (gP 1 r0 0 h).bind fun a_76 =>
  (gI 0 r1 1 h).bind fun x_77 =>
  cv 2 a_76 (fX2_isInterface a_76 x_77) h fun x_78 h =>
  if x_78 = 0 then (
    fX1_callError_128 a_75 (nI 0) h)
  else
  fX1_callError_128 a_75 (nI 1) h
theorem sX1_callError_128  (s0 : Nat) (s1 : Int32) : Sm mX1_callError rI 0 0 128 [none, none, none] [.int s1, .ref s0] (fX1_callError_128 s0 s1) := by
  unfold fX1_callError_128
  refine S_pI (pc := 128) fl_X1_132 rfl rfl dX1_callError_128 ?_
  refine S_iconst (pc := 131) (v := (nI 0)) dX1_callError_131 kI_0 ?_
  exact S_iret (pc := 132) ⟨rfl, rfl⟩ rfl rfl dX1_callError_132
theorem sX1_callError  (r0 : Nat) (r1 : Nat) : Sm mX1_callError rI 0 0 0 [some (.ref r0), some (.ref r1), none] [] (fX1_callError r0 r1) := by
  unfold fX1_callError
  refine S_aload_n (pc := 0) dX1_callError_0 rfl ?_
  refine S_aload_n (pc := 1) dX1_callError_1 rfl ?_
  refine Y_Vv (pc := 2) (st := []) (kc' := 0) (ks' := 0) (ktX1_gatherApplicable r0 r1) mw_X1_gatherApplicable mv_X1_gatherApplicable w472 (RO.mk rfl rfl rfl rfl) rfl rfl rfl dX1_callError_2 ⟨rfl, rfl⟩ ?_
  refine S_aload_n (pc := 5) dX1_callError_5 rfl ?_
  refine S_gI (pc := 6) fl_X1_22 rfl dX1_callError_6 (fun x_53 => ?_)
  refine S_ifne (pc := 9) (tgt := 14) dX1_callError_9 (by decide) ?_ ?_
  · refine S_aload_n (pc := 14) dX1_callError_14 rfl ?_
    refine Y_Vi (pc := 15) (st := []) (kc' := 0) (ks' := 0) (ktX1_bestApplicable r0) mw_X1_bestApplicable mv_X1_bestApplicable w489 (RO.mk rfl rfl rfl rfl) rfl rfl rfl dX1_callError_15 ⟨rfl, rfl⟩ (fun x_54 => ?_)
    refine Z_istore_n (pc := 18) (lv' := [some (.ref r0), some (.ref r1), some (.int x_54)]) dX1_callError_18 rfl rfl rfl ?_
    refine S_iload_n (pc := 19) dX1_callError_19 rfl ?_
    refine S_bipush (pc := 20) (v := (-2 : Int32)) dX1_callError_20 kB_m2 ?_
    refine S_icmpne (pc := 22) (tgt := 27) dX1_callError_22 (by decide) ?_ ?_
    · refine S_aload_n (pc := 27) dX1_callError_27 rfl ?_
      refine S_gP (pc := 28) fl_X1_12 rfl dX1_callError_28 (fun a_55 => ?_)
      refine S_aload_n (pc := 31) dX1_callError_31 rfl ?_
      refine S_gP (pc := 32) fl_X1_30 rfl dX1_callError_32 (fun a_56 => ?_)
      refine S_gP (pc := 35) fl_X1_86 rfl dX1_callError_35 (fun a_57 => ?_)
      refine S_gP (pc := 38) fl_X1_103 rfl dX1_callError_38 (fun a_58 => ?_)
      refine S_iload_n (pc := 41) dX1_callError_41 rfl ?_
      refine S_ldI (pc := 42) dX1_callError_42 (fun x_59 => ?_)
      refine S_pI (pc := 43) fl_X1_106 rfl rfl dX1_callError_43 ?_
      refine S_aload_n (pc := 46) dX1_callError_46 rfl ?_
      refine S_gP (pc := 47) fl_X1_12 rfl dX1_callError_47 (fun a_60 => ?_)
      refine S_aload_n (pc := 50) dX1_callError_50 rfl ?_
      refine S_gP (pc := 51) fl_X1_30 rfl dX1_callError_51 (fun a_61 => ?_)
      refine S_gP (pc := 54) fl_X1_86 rfl dX1_callError_54 (fun a_62 => ?_)
      refine S_gP (pc := 57) fl_X1_119 rfl dX1_callError_57 (fun a_63 => ?_)
      refine S_iload_n (pc := 60) dX1_callError_60 rfl ?_
      refine S_ldI (pc := 61) dX1_callError_61 (fun x_64 => ?_)
      refine S_pI (pc := 62) fl_X1_122 rfl rfl dX1_callError_62 ?_
      refine S_aload_n (pc := 65) dX1_callError_65 rfl ?_
      refine S_gP (pc := 66) fl_X1_12 rfl dX1_callError_66 (fun a_65 => ?_)
      refine S_aload_n (pc := 69) dX1_callError_69 rfl ?_
      refine S_gP (pc := 70) fl_X1_30 rfl dX1_callError_70 (fun a_66 => ?_)
      refine S_gP (pc := 73) fl_X1_86 rfl dX1_callError_73 (fun a_67 => ?_)
      refine S_gP (pc := 76) fl_X1_124 rfl dX1_callError_76 (fun a_68 => ?_)
      refine S_iload_n (pc := 79) dX1_callError_79 rfl ?_
      refine S_ldI (pc := 80) dX1_callError_80 (fun x_69 => ?_)
      refine S_pI (pc := 81) fl_X1_127 rfl rfl dX1_callError_81 ?_
      refine S_aload_n (pc := 84) dX1_callError_84 rfl ?_
      refine S_gP (pc := 85) fl_X1_12 rfl dX1_callError_85 (fun a_70 => ?_)
      refine S_aload_n (pc := 88) dX1_callError_88 rfl ?_
      refine S_gP (pc := 89) fl_X1_30 rfl dX1_callError_89 (fun a_71 => ?_)
      refine S_gP (pc := 92) fl_X1_86 rfl dX1_callError_92 (fun a_72 => ?_)
      refine S_gP (pc := 95) fl_X1_90 rfl dX1_callError_95 (fun a_73 => ?_)
      refine S_iload_n (pc := 98) dX1_callError_98 rfl ?_
      refine S_ldI (pc := 99) dX1_callError_99 (fun x_74 => ?_)
      refine S_iconst (pc := 100) (v := (nI 1)) dX1_callError_100 kI_1 ?_
      refine S_iand (pc := 101) dX1_callError_101 ?_
      refine S_pI (pc := 102) fl_X1_108 rfl rfl dX1_callError_102 ?_
      refine S_aload_n (pc := 105) dX1_callError_105 rfl ?_
      refine S_gP (pc := 106) fl_X1_12 rfl dX1_callError_106 (fun a_75 => ?_)
      refine S_aload_n (pc := 109) dX1_callError_109 rfl ?_
      refine S_gP (pc := 110) fl_X1_30 rfl dX1_callError_110 (fun a_76 => ?_)
      refine S_aload_n (pc := 113) dX1_callError_113 rfl ?_
      refine S_gI (pc := 114) fl_X1_37 rfl dX1_callError_114 (fun x_77 => ?_)
      refine Y_Vi (pc := 117) (st := [.ref a_75]) (kc' := 0) (ks' := 0) (ktX2_isInterface a_76 x_77) mw_X2_isInterface mv_X2_isInterface w484 (RO.mk rfl rfl rfl rfl) rfl rfl rfl dX1_callError_117 ⟨rfl, rfl⟩ (fun x_78 => ?_)
      refine S_ifeq (pc := 120) (tgt := 127) dX1_callError_120 (by decide) ?_ ?_
      · refine S_iconst (pc := 127) (v := (nI 0)) dX1_callError_127 kI_0 ?_
        exact (S_lv (lv0 := [none, none, none]) trivial (sX1_callError_128 a_75 (nI 0)))
      · refine S_iconst (pc := 123) (v := (nI 1)) dX1_callError_123 kI_1 ?_
        refine S_goto (pc := 124) (tgt := 128) dX1_callError_124 (by decide) ?_
        exact (S_lv (lv0 := [none, none, none]) trivial (sX1_callError_128 a_75 (nI 1)))
    · refine S_iconst (pc := 25) (v := (nI 4)) dX1_callError_25 kI_4 ?_
      exact S_iret (pc := 26) ⟨rfl, rfl⟩ rfl rfl dX1_callError_26
  · refine S_iconst (pc := 12) (v := (nI 3)) dX1_callError_12 kI_3 ?_
    exact S_iret (pc := 13) ⟨rfl, rfl⟩ rfl rfl dX1_callError_13
theorem ktX1_callError (r0 : Nat) (r1 : Nat) : Ct mX1_callError rI [.ref r0, .ref r1] (fX1_callError r0 r1) := Ct.of (z := 1) pn_X1 rfl rfl rfl (sX1_callError r0 r1)
def mX1_canBeBase : MI := (yX1_canBeBase, cX1_canBeBase, 3, (some .boolean), { frames := 1, cells := 0, slots := 0, locals := 22 }, [])
theorem mw_X1_canBeBase : MW mX1_canBeBase 2 := ⟨w533, w8, ⟨by decide, by decide⟩, by decide +kernel⟩
theorem mv_X1_canBeBase : MV mX1_canBeBase 1 := ⟨_, rfl, w531, w532⟩
def fX1_canBeBase  (r0 : Nat) (v1 : Int32) (v2 : Int32) : AH → Option (Int32 × AH) := fun h =>
  (gP 1 r0 0 h).bind fun a_9 =>
  cv 2 a_9 (fX2_isThere a_9 v1) h fun x_10 h =>
  if x_10 = 0 then (
    rz (nI 0) (nI 0) h)
  else
  (gP 1 r0 0 h).bind fun a_11 =>
  cv 2 a_11 (fX2_isInterface a_11 v1) h fun x_12 h =>
  if x_12 = 0 then (
    (gP 1 r0 0 h).bind fun a_13 =>
    cv 2 a_13 (fX2_isFinal a_13 v1) h fun x_14 h =>
    if x_14 = 0 then (
      (gP 1 r0 0 h).bind fun a_15 =>
      cv 2 a_15 (fX2_isClassOpen a_15 v1 v2) h fun x_16 h =>
      if x_16 = 0 then (
        rz (nI 0) (nI 0) h)
      else
      rz (nI 1) (nI 1) h)
    else
    rz (nI 0) (nI 0) h)
  else
  rz (nI 0) (nI 0) h
theorem sX1_canBeBase  (r0 : Nat) (v1 : Int32) (v2 : Int32) : Sm mX1_canBeBase rI 0 0 0 [some (.ref r0), some (.int v1), some (.int v2)] [] (fX1_canBeBase r0 v1 v2) := by
  unfold fX1_canBeBase
  refine S_aload_n (pc := 0) dX1_canBeBase_0 rfl ?_
  refine S_gP (pc := 1) fl_X1_30 rfl dX1_canBeBase_1 (fun a_9 => ?_)
  refine S_iload_n (pc := 4) dX1_canBeBase_4 rfl ?_
  refine Y_Vi (pc := 5) (st := []) (kc' := 0) (ks' := 0) (ktX2_isThere a_9 v1) mw_X2_isThere mv_X2_isThere w447 (RO.mk rfl rfl rfl rfl) rfl rfl rfl dX1_canBeBase_5 ⟨rfl, rfl⟩ (fun x_10 => ?_)
  refine S_ifeq (pc := 8) (tgt := 49) dX1_canBeBase_8 (by decide) ?_ ?_
  · refine S_iconst (pc := 49) (v := (nI 0)) dX1_canBeBase_49 kI_0 ?_
    exact S_zret (pc := 50) ⟨rfl, rfl⟩ rfl rfl dX1_canBeBase_50
  · refine S_aload_n (pc := 11) dX1_canBeBase_11 rfl ?_
    refine S_gP (pc := 12) fl_X1_30 rfl dX1_canBeBase_12 (fun a_11 => ?_)
    refine S_iload_n (pc := 15) dX1_canBeBase_15 rfl ?_
    refine Y_Vi (pc := 16) (st := []) (kc' := 0) (ks' := 0) (ktX2_isInterface a_11 v1) mw_X2_isInterface mv_X2_isInterface w484 (RO.mk rfl rfl rfl rfl) rfl rfl rfl dX1_canBeBase_16 ⟨rfl, rfl⟩ (fun x_12 => ?_)
    refine S_ifne (pc := 19) (tgt := 49) dX1_canBeBase_19 (by decide) ?_ ?_
    · refine S_iconst (pc := 49) (v := (nI 0)) dX1_canBeBase_49 kI_0 ?_
      exact S_zret (pc := 50) ⟨rfl, rfl⟩ rfl rfl dX1_canBeBase_50
    · refine S_aload_n (pc := 22) dX1_canBeBase_22 rfl ?_
      refine S_gP (pc := 23) fl_X1_30 rfl dX1_canBeBase_23 (fun a_13 => ?_)
      refine S_iload_n (pc := 26) dX1_canBeBase_26 rfl ?_
      refine Y_Vi (pc := 27) (st := []) (kc' := 0) (ks' := 0) (ktX2_isFinal a_13 v1) mw_X2_isFinal mv_X2_isFinal w509 (RO.mk rfl rfl rfl rfl) rfl rfl rfl dX1_canBeBase_27 ⟨rfl, rfl⟩ (fun x_14 => ?_)
      refine S_ifne (pc := 30) (tgt := 49) dX1_canBeBase_30 (by decide) ?_ ?_
      · refine S_iconst (pc := 49) (v := (nI 0)) dX1_canBeBase_49 kI_0 ?_
        exact S_zret (pc := 50) ⟨rfl, rfl⟩ rfl rfl dX1_canBeBase_50
      · refine S_aload_n (pc := 33) dX1_canBeBase_33 rfl ?_
        refine S_gP (pc := 34) fl_X1_30 rfl dX1_canBeBase_34 (fun a_15 => ?_)
        refine S_iload_n (pc := 37) dX1_canBeBase_37 rfl ?_
        refine S_iload_n (pc := 38) dX1_canBeBase_38 rfl ?_
        refine Y_Vi (pc := 39) (st := []) (kc' := 0) (ks' := 0) (ktX2_isClassOpen a_15 v1 v2) mw_X2_isClassOpen mv_X2_isClassOpen w448 (RO.mk rfl rfl rfl rfl) rfl rfl rfl dX1_canBeBase_39 ⟨rfl, rfl⟩ (fun x_16 => ?_)
        refine S_ifeq (pc := 42) (tgt := 49) dX1_canBeBase_42 (by decide) ?_ ?_
        · refine S_iconst (pc := 49) (v := (nI 0)) dX1_canBeBase_49 kI_0 ?_
          exact S_zret (pc := 50) ⟨rfl, rfl⟩ rfl rfl dX1_canBeBase_50
        · refine S_iconst (pc := 45) (v := (nI 1)) dX1_canBeBase_45 kI_1 ?_
          refine S_goto (pc := 46) (tgt := 50) dX1_canBeBase_46 (by decide) ?_
          exact S_zret (pc := 50) ⟨rfl, rfl⟩ rfl rfl dX1_canBeBase_50
theorem ktX1_canBeBase (r0 : Nat) (v1 : Int32) (v2 : Int32) : Ct mX1_canBeBase rI [.ref r0, .int v1, .int v2] (fX1_canBeBase r0 v1 v2) := Ct.of (z := 0) pn_X1 rfl rfl rfl (sX1_canBeBase r0 v1 v2)
def mX1_fieldError : MI := (yX1_fieldError, cX1_fieldError, 3, (some .int), { frames := 2, cells := 0, slots := 0, locals := 46 }, [])
theorem mw_X1_fieldError : MW mX1_fieldError 1 := ⟨w455, w8, ⟨by decide, by decide⟩, by decide +kernel⟩
theorem mv_X1_fieldError : MV mX1_fieldError 1 := ⟨_, rfl, w454, wp4⟩
def fX1_fieldError_121  (r0 : Nat) (v2 : Int32) : AH → Option (Int32 × AH) := fun h =>
  (gP 1 r0 1 h).bind fun a_65 =>
  (gP 1 r0 0 h).bind fun a_66 =>
  (gP 2 a_66 10 h).bind fun a_67 =>
  (gP 4 a_67 7 h).bind fun a_68 =>
  (ldI a_68 v2 h).bind fun x_69 =>
  (pI 7 a_65 2 x_69 h).bind fun h =>
  (gP 1 r0 1 h).bind fun a_70 =>
  (gP 1 r0 0 h).bind fun a_71 =>
  (gP 2 a_71 10 h).bind fun a_72 =>
  (gP 4 a_72 2 h).bind fun a_73 =>
  (ldI a_73 v2 h).bind fun x_74 =>
  (pI 7 a_70 3 (x_74 &&& (nI 1)) h).bind fun h =>
  some ((nI 0), h)
def fX1_fieldError_68  (r0 : Nat) (r1 : Nat) (v2 : Int32) : AH → Option (Int32 × AH) := fun h =>
  (gI 0 r1 0 h).bind fun x_75 =>
  if x_75 = 0 then (
    (gP 1 r0 0 h).bind fun a_76 =>
    (gP 2 a_76 10 h).bind fun a_77 =>
    (gP 4 a_77 3 h).bind fun a_78 =>
    (ldI a_78 v2 h).bind fun x_79 =>
    if x_79 = (-2 : Int32) then (
      fX1_fieldError_121 r0 v2 h)
    else
    (gP 1 r0 1 h).bind fun a_80 =>
    (pZ 7 a_80 0 (nI 1) h).bind fun h =>
    (gP 1 r0 1 h).bind fun a_81 =>
    (gP 1 r0 0 h).bind fun a_82 =>
    (gP 2 a_82 10 h).bind fun a_83 =>
    (gP 4 a_83 3 h).bind fun a_84 =>
    (ldI a_84 v2 h).bind fun x_85 =>
    (pI 7 a_81 1 x_85 h).bind fun h =>
    some ((nI 0), h))
  else
  fX1_fieldError_121 r0 v2 h
def fX1_fieldError  (r0 : Nat) (r1 : Nat) : AH → Option (Int32 × AH) := fun h =>
  (gP 1 r0 0 h).bind fun a_86 =>
  (gI 0 r1 1 h).bind fun x_87 =>
  (gI 0 r1 2 h).bind fun x_88 =>
  cv 2 a_86 (fX2_fieldFor a_86 x_87 x_88 (-3 : Int32)) h fun x_89 h =>
  if x_89 = (-2 : Int32) then (
    some ((nI 3), h))
  else
  (gP 1 r0 0 h).bind fun a_90 =>
  cv 2 a_90 (fX2_isMemberOpen a_90 x_89 r1) h fun x_91 h =>
  if x_91 = 0 then (
    some ((nI 5), h))
  else
  (gI 0 r1 0 h).bind fun x_92 =>
  if x_92 = (nI 1) then (
    (gP 1 r0 0 h).bind fun a_93 =>
    (gP 2 a_93 10 h).bind fun a_94 =>
    (gP 4 a_94 2 h).bind fun a_95 =>
    (ldI a_95 x_89 h).bind fun x_96 =>
    if (x_96 &&& (nI 2)) = 0 then (
      fX1_fieldError_68 r0 r1 x_89 h)
    else
    some ((nI 6), h))
  else
  fX1_fieldError_68 r0 r1 x_89 h
theorem sX1_fieldError_121  (r0 : Nat) (v2 : Int32) : Sm mX1_fieldError rI 0 0 121 [some (.ref r0), none, some (.int v2)] [] (fX1_fieldError_121 r0 v2) := by
  unfold fX1_fieldError_121
  refine S_aload_n (pc := 121) dX1_fieldError_121 rfl ?_
  refine S_gP (pc := 122) fl_X1_12 rfl dX1_fieldError_122 (fun a_65 => ?_)
  refine S_aload_n (pc := 125) dX1_fieldError_125 rfl ?_
  refine S_gP (pc := 126) fl_X1_30 rfl dX1_fieldError_126 (fun a_66 => ?_)
  refine S_gP (pc := 129) fl_X1_86 rfl dX1_fieldError_129 (fun a_67 => ?_)
  refine S_gP (pc := 132) fl_X1_103 rfl dX1_fieldError_132 (fun a_68 => ?_)
  refine S_iload_n (pc := 135) dX1_fieldError_135 rfl ?_
  refine S_ldI (pc := 136) dX1_fieldError_136 (fun x_69 => ?_)
  refine S_pI (pc := 137) fl_X1_106 rfl rfl dX1_fieldError_137 ?_
  refine S_aload_n (pc := 140) dX1_fieldError_140 rfl ?_
  refine S_gP (pc := 141) fl_X1_12 rfl dX1_fieldError_141 (fun a_70 => ?_)
  refine S_aload_n (pc := 144) dX1_fieldError_144 rfl ?_
  refine S_gP (pc := 145) fl_X1_30 rfl dX1_fieldError_145 (fun a_71 => ?_)
  refine S_gP (pc := 148) fl_X1_86 rfl dX1_fieldError_148 (fun a_72 => ?_)
  refine S_gP (pc := 151) fl_X1_90 rfl dX1_fieldError_151 (fun a_73 => ?_)
  refine S_iload_n (pc := 154) dX1_fieldError_154 rfl ?_
  refine S_ldI (pc := 155) dX1_fieldError_155 (fun x_74 => ?_)
  refine S_iconst (pc := 156) (v := (nI 1)) dX1_fieldError_156 kI_1 ?_
  refine S_iand (pc := 157) dX1_fieldError_157 ?_
  refine S_pI (pc := 158) fl_X1_108 rfl rfl dX1_fieldError_158 ?_
  refine S_iconst (pc := 161) (v := (nI 0)) dX1_fieldError_161 kI_0 ?_
  exact S_iret (pc := 162) ⟨rfl, rfl⟩ rfl rfl dX1_fieldError_162
theorem sX1_fieldError_68  (r0 : Nat) (r1 : Nat) (v2 : Int32) : Sm mX1_fieldError rI 0 0 68 [some (.ref r0), some (.ref r1), some (.int v2)] [] (fX1_fieldError_68 r0 r1 v2) := by
  unfold fX1_fieldError_68
  refine S_aload_n (pc := 68) dX1_fieldError_68 rfl ?_
  refine S_gI (pc := 69) fl_X1_55 rfl dX1_fieldError_69 (fun x_75 => ?_)
  refine S_ifne (pc := 72) (tgt := 121) dX1_fieldError_72 (by decide) ?_ ?_
  · exact (S_lv (lv0 := [some (.ref r0), none, some (.int v2)]) (And.intro rfl (And.intro rfl trivial)) (sX1_fieldError_121 r0 v2))
  · refine S_aload_n (pc := 75) dX1_fieldError_75 rfl ?_
    refine S_gP (pc := 76) fl_X1_30 rfl dX1_fieldError_76 (fun a_76 => ?_)
    refine S_gP (pc := 79) fl_X1_86 rfl dX1_fieldError_79 (fun a_77 => ?_)
    refine S_gP (pc := 82) fl_X1_95 rfl dX1_fieldError_82 (fun a_78 => ?_)
    refine S_iload_n (pc := 85) dX1_fieldError_85 rfl ?_
    refine S_ldI (pc := 86) dX1_fieldError_86 (fun x_79 => ?_)
    refine S_bipush (pc := 87) (v := (-2 : Int32)) dX1_fieldError_87 kB_m2 ?_
    refine S_icmpeq (pc := 89) (tgt := 121) dX1_fieldError_89 (by decide) ?_ ?_
    · exact (S_lv (lv0 := [some (.ref r0), none, some (.int v2)]) (And.intro rfl (And.intro rfl trivial)) (sX1_fieldError_121 r0 v2))
    · refine S_aload_n (pc := 92) dX1_fieldError_92 rfl ?_
      refine S_gP (pc := 93) fl_X1_12 rfl dX1_fieldError_93 (fun a_80 => ?_)
      refine S_iconst (pc := 96) (v := (nI 1)) dX1_fieldError_96 kI_1 ?_
      refine S_pZ (pc := 97) fl_X1_98 rfl rfl dX1_fieldError_97 ?_
      refine S_aload_n (pc := 100) dX1_fieldError_100 rfl ?_
      refine S_gP (pc := 101) fl_X1_12 rfl dX1_fieldError_101 (fun a_81 => ?_)
      refine S_aload_n (pc := 104) dX1_fieldError_104 rfl ?_
      refine S_gP (pc := 105) fl_X1_30 rfl dX1_fieldError_105 (fun a_82 => ?_)
      refine S_gP (pc := 108) fl_X1_86 rfl dX1_fieldError_108 (fun a_83 => ?_)
      refine S_gP (pc := 111) fl_X1_95 rfl dX1_fieldError_111 (fun a_84 => ?_)
      refine S_iload_n (pc := 114) dX1_fieldError_114 rfl ?_
      refine S_ldI (pc := 115) dX1_fieldError_115 (fun x_85 => ?_)
      refine S_pI (pc := 116) fl_X1_101 rfl rfl dX1_fieldError_116 ?_
      refine S_iconst (pc := 119) (v := (nI 0)) dX1_fieldError_119 kI_0 ?_
      exact S_iret (pc := 120) ⟨rfl, rfl⟩ rfl rfl dX1_fieldError_120
theorem sX1_fieldError  (r0 : Nat) (r1 : Nat) : Sm mX1_fieldError rI 0 0 0 [some (.ref r0), some (.ref r1), none] [] (fX1_fieldError r0 r1) := by
  unfold fX1_fieldError
  refine S_aload_n (pc := 0) dX1_fieldError_0 rfl ?_
  refine S_gP (pc := 1) fl_X1_30 rfl dX1_fieldError_1 (fun a_86 => ?_)
  refine S_aload_n (pc := 4) dX1_fieldError_4 rfl ?_
  refine S_gI (pc := 5) fl_X1_37 rfl dX1_fieldError_5 (fun x_87 => ?_)
  refine S_aload_n (pc := 8) dX1_fieldError_8 rfl ?_
  refine S_gI (pc := 9) fl_X1_75 rfl dX1_fieldError_9 (fun x_88 => ?_)
  refine S_bipush (pc := 12) (v := (-3 : Int32)) dX1_fieldError_12 kB_m3 ?_
  refine Y_Vi (pc := 14) (st := []) (kc' := 0) (ks' := 0) (ktX2_fieldFor a_86 x_87 x_88 (-3 : Int32)) mw_X2_fieldFor mv_X2_fieldFor w456 (RO.mk rfl rfl rfl rfl) rfl rfl rfl dX1_fieldError_14 ⟨rfl, rfl⟩ (fun x_89 => ?_)
  refine Z_istore_n (pc := 17) (lv' := [some (.ref r0), some (.ref r1), some (.int x_89)]) dX1_fieldError_17 rfl rfl rfl ?_
  refine S_iload_n (pc := 18) dX1_fieldError_18 rfl ?_
  refine S_bipush (pc := 19) (v := (-2 : Int32)) dX1_fieldError_19 kB_m2 ?_
  refine S_icmpne (pc := 21) (tgt := 26) dX1_fieldError_21 (by decide) ?_ ?_
  · refine S_aload_n (pc := 26) dX1_fieldError_26 rfl ?_
    refine S_gP (pc := 27) fl_X1_30 rfl dX1_fieldError_27 (fun a_90 => ?_)
    refine S_iload_n (pc := 30) dX1_fieldError_30 rfl ?_
    refine S_aload_n (pc := 31) dX1_fieldError_31 rfl ?_
    refine Y_Vi (pc := 32) (st := []) (kc' := 0) (ks' := 0) (ktX2_isMemberOpen a_90 x_89 r1) mw_X2_isMemberOpen mv_X2_isMemberOpen w464 (RO.mk rfl rfl rfl rfl) rfl rfl rfl dX1_fieldError_32 ⟨rfl, rfl⟩ (fun x_91 => ?_)
    refine S_ifne (pc := 35) (tgt := 40) dX1_fieldError_35 (by decide) ?_ ?_
    · refine S_aload_n (pc := 40) dX1_fieldError_40 rfl ?_
      refine S_gI (pc := 41) fl_X1_55 rfl dX1_fieldError_41 (fun x_92 => ?_)
      refine S_iconst (pc := 44) (v := (nI 1)) dX1_fieldError_44 kI_1 ?_
      refine S_icmpne (pc := 45) (tgt := 68) dX1_fieldError_45 (by decide) ?_ ?_
      · exact (sX1_fieldError_68 r0 r1 x_89)
      · refine S_aload_n (pc := 48) dX1_fieldError_48 rfl ?_
        refine S_gP (pc := 49) fl_X1_30 rfl dX1_fieldError_49 (fun a_93 => ?_)
        refine S_gP (pc := 52) fl_X1_86 rfl dX1_fieldError_52 (fun a_94 => ?_)
        refine S_gP (pc := 55) fl_X1_90 rfl dX1_fieldError_55 (fun a_95 => ?_)
        refine S_iload_n (pc := 58) dX1_fieldError_58 rfl ?_
        refine S_ldI (pc := 59) dX1_fieldError_59 (fun x_96 => ?_)
        refine S_iconst (pc := 60) (v := (nI 2)) dX1_fieldError_60 kI_2 ?_
        refine S_iand (pc := 61) dX1_fieldError_61 ?_
        refine S_ifeq (pc := 62) (tgt := 68) dX1_fieldError_62 (by decide) ?_ ?_
        · exact (sX1_fieldError_68 r0 r1 x_89)
        · refine S_bipush (pc := 65) (v := (nI 6)) dX1_fieldError_65 kB_6 ?_
          exact S_iret (pc := 67) ⟨rfl, rfl⟩ rfl rfl dX1_fieldError_67
    · refine S_iconst (pc := 38) (v := (nI 5)) dX1_fieldError_38 kI_5 ?_
      exact S_iret (pc := 39) ⟨rfl, rfl⟩ rfl rfl dX1_fieldError_39
  · refine S_iconst (pc := 24) (v := (nI 3)) dX1_fieldError_24 kI_3 ?_
    exact S_iret (pc := 25) ⟨rfl, rfl⟩ rfl rfl dX1_fieldError_25
theorem ktX1_fieldError (r0 : Nat) (r1 : Nat) : Ct mX1_fieldError rI [.ref r0, .ref r1] (fX1_fieldError r0 r1) := Ct.of (z := 1) pn_X1 rfl rfl rfl (sX1_fieldError r0 r1)
def mX1_extendingError : MI := (yX1_extendingError, cX1_extendingError, 2, (some .int), { frames := 3, cells := 0, slots := 0, locals := 83 }, [])
theorem mw_X1_extendingError : MW mX1_extendingError 1 := ⟨w508, w8, ⟨by decide, by decide⟩, by decide +kernel⟩
theorem mv_X1_extendingError : MV mX1_extendingError 1 := ⟨_, rfl, w507, wp12⟩
def fX1_extendingError  (r0 : Nat) (v1 : Int32) : AH → Option (Int32 × AH) := fun h =>
  (gP 1 r0 0 h).bind fun a_13 =>
  cv 2 a_13 (fX2_isInterface a_13 v1) h fun x_14 h =>
  if x_14 = 0 then (
    (gP 1 r0 0 h).bind fun a_15 =>
    cv 2 a_15 (fX2_isFinal a_15 v1) h fun x_16 h =>
    if x_16 = 0 then (
      (gP 1 r0 0 h).bind fun a_17 =>
      (gP 1 r0 0 h).bind fun a_18 =>
      (gP 2 a_18 9 h).bind fun a_19 =>
      (ldI a_19 v1 h).bind fun x_20 =>
      (gP 1 r0 0 h).bind fun a_21 =>
      (gP 2 a_21 8 h).bind fun a_22 =>
      (ldI a_22 v1 h).bind fun x_23 =>
      cv 2 a_17 (fX2_isIncomplete a_17 x_20 x_23) h fun x_24 h =>
      if x_24 = 0 then (
        some ((nI 0), h))
      else
      some ((nI 7), h))
    else
    some ((nI 6), h))
  else
  some ((nI 6), h)
theorem sX1_extendingError  (r0 : Nat) (v1 : Int32) : Sm mX1_extendingError rI 0 0 0 [some (.ref r0), some (.int v1)] [] (fX1_extendingError r0 v1) := by
  unfold fX1_extendingError
  refine S_aload_n (pc := 0) dX1_extendingError_0 rfl ?_
  refine S_gP (pc := 1) fl_X1_30 rfl dX1_extendingError_1 (fun a_13 => ?_)
  refine S_iload_n (pc := 4) dX1_extendingError_4 rfl ?_
  refine Y_Vi (pc := 5) (st := []) (kc' := 0) (ks' := 0) (ktX2_isInterface a_13 v1) mw_X2_isInterface mv_X2_isInterface w484 (RO.mk rfl rfl rfl rfl) rfl rfl rfl dX1_extendingError_5 ⟨rfl, rfl⟩ (fun x_14 => ?_)
  refine S_ifne (pc := 8) (tgt := 22) dX1_extendingError_8 (by decide) ?_ ?_
  · refine S_bipush (pc := 22) (v := (nI 6)) dX1_extendingError_22 kB_6 ?_
    exact S_iret (pc := 24) ⟨rfl, rfl⟩ rfl rfl dX1_extendingError_24
  · refine S_aload_n (pc := 11) dX1_extendingError_11 rfl ?_
    refine S_gP (pc := 12) fl_X1_30 rfl dX1_extendingError_12 (fun a_15 => ?_)
    refine S_iload_n (pc := 15) dX1_extendingError_15 rfl ?_
    refine Y_Vi (pc := 16) (st := []) (kc' := 0) (ks' := 0) (ktX2_isFinal a_15 v1) mw_X2_isFinal mv_X2_isFinal w509 (RO.mk rfl rfl rfl rfl) rfl rfl rfl dX1_extendingError_16 ⟨rfl, rfl⟩ (fun x_16 => ?_)
    refine S_ifeq (pc := 19) (tgt := 25) dX1_extendingError_19 (by decide) ?_ ?_
    · refine S_aload_n (pc := 25) dX1_extendingError_25 rfl ?_
      refine S_gP (pc := 26) fl_X1_30 rfl dX1_extendingError_26 (fun a_17 => ?_)
      refine S_aload_n (pc := 29) dX1_extendingError_29 rfl ?_
      refine S_gP (pc := 30) fl_X1_30 rfl dX1_extendingError_30 (fun a_18 => ?_)
      refine S_gP (pc := 33) fl_X1_178 rfl dX1_extendingError_33 (fun a_19 => ?_)
      refine S_iload_n (pc := 36) dX1_extendingError_36 rfl ?_
      refine S_ldI (pc := 37) dX1_extendingError_37 (fun x_20 => ?_)
      refine S_aload_n (pc := 38) dX1_extendingError_38 rfl ?_
      refine S_gP (pc := 39) fl_X1_30 rfl dX1_extendingError_39 (fun a_21 => ?_)
      refine S_gP (pc := 42) fl_X1_135 rfl dX1_extendingError_42 (fun a_22 => ?_)
      refine S_iload_n (pc := 45) dX1_extendingError_45 rfl ?_
      refine S_ldI (pc := 46) dX1_extendingError_46 (fun x_23 => ?_)
      refine Y_Vi (pc := 47) (st := []) (kc' := 0) (ks' := 0) (ktX2_isIncomplete a_17 x_20 x_23) mw_X2_isIncomplete mv_X2_isIncomplete w513 (RO.mk rfl rfl rfl rfl) rfl rfl rfl dX1_extendingError_47 ⟨rfl, rfl⟩ (fun x_24 => ?_)
      refine S_ifeq (pc := 50) (tgt := 58) dX1_extendingError_50 (by decide) ?_ ?_
      · refine S_iconst (pc := 58) (v := (nI 0)) dX1_extendingError_58 kI_0 ?_
        exact S_iret (pc := 59) ⟨rfl, rfl⟩ rfl rfl dX1_extendingError_59
      · refine S_bipush (pc := 53) (v := (nI 7)) dX1_extendingError_53 kB_7 ?_
        refine S_goto (pc := 55) (tgt := 59) dX1_extendingError_55 (by decide) ?_
        exact S_iret (pc := 59) ⟨rfl, rfl⟩ rfl rfl dX1_extendingError_59
    · refine S_bipush (pc := 22) (v := (nI 6)) dX1_extendingError_22 kB_6 ?_
      exact S_iret (pc := 24) ⟨rfl, rfl⟩ rfl rfl dX1_extendingError_24
theorem ktX1_extendingError (r0 : Nat) (v1 : Int32) : Ct mX1_extendingError rI [.ref r0, .int v1] (fX1_extendingError r0 v1) := Ct.of (z := 0) pn_X1 rfl rfl rfl (sX1_extendingError r0 v1)
def mX1_implementingError : MI := (yX1_implementingError, cX1_implementingError, 3, (some .int), { frames := 3, cells := 0, slots := 0, locals := 83 }, [])
theorem mw_X1_implementingError : MW mX1_implementingError 1 := ⟨w529, w8, ⟨by decide, by decide⟩, by decide +kernel⟩
theorem mv_X1_implementingError : MV mX1_implementingError 1 := ⟨_, rfl, w528, wp14⟩
def fX1_implementingError  (r0 : Nat) (r1 : Nat) : AH → Option (Int32 × AH) := fun h =>
  (gP 1 r0 0 h).bind fun a_21 =>
  (gI 0 r1 1 h).bind fun x_22 =>
  cv 2 a_21 (fX2_isInterface a_21 x_22) h fun x_23 h =>
  if x_23 = 0 then (
    some ((nI 6), h))
  else
  (gI 0 r1 4 h).bind fun x_24 =>
  (gI 0 r1 3 h).bind fun x_25 =>
  cv 1 r0 (fX1_canBeBase r0 x_24 x_25) h fun x_26 h =>
  if x_26 = 0 then (
    some ((nI 8), h))
  else
  (gP 1 r0 0 h).bind fun a_27 =>
  (gP 2 a_27 8 h).bind fun a_28 =>
  (gI 0 r1 4 h).bind fun x_29 =>
  (ldI a_28 x_29 h).bind fun x_30 =>
  (gP 1 r0 0 h).bind fun a_31 =>
  (gP 2 a_31 8 h).bind fun a_32 =>
  (gI 0 r1 1 h).bind fun x_33 =>
  (ldI a_32 x_33 h).bind fun x_34 =>
  (gP 1 r0 0 h).bind fun a_35 =>
  (gP 1 r0 0 h).bind fun a_36 =>
  (gP 2 a_36 9 h).bind fun a_37 =>
  (gI 0 r1 4 h).bind fun x_38 =>
  (ldI a_37 x_38 h).bind fun x_39 =>
  cv 2 a_35 (fX2_isIncomplete a_35 x_39 (x_30 ||| x_34)) h fun x_40 h =>
  if x_40 = 0 then (
    some ((nI 0), h))
  else
  some ((nI 7), h)
theorem sX1_implementingError  (r0 : Nat) (r1 : Nat) : Sm mX1_implementingError rI 0 0 0 [some (.ref r0), some (.ref r1), none] [] (fX1_implementingError r0 r1) := by
  unfold fX1_implementingError
  refine S_aload_n (pc := 0) dX1_implementingError_0 rfl ?_
  refine S_gP (pc := 1) fl_X1_30 rfl dX1_implementingError_1 (fun a_21 => ?_)
  refine S_aload_n (pc := 4) dX1_implementingError_4 rfl ?_
  refine S_gI (pc := 5) fl_X1_37 rfl dX1_implementingError_5 (fun x_22 => ?_)
  refine Y_Vi (pc := 8) (st := []) (kc' := 0) (ks' := 0) (ktX2_isInterface a_21 x_22) mw_X2_isInterface mv_X2_isInterface w484 (RO.mk rfl rfl rfl rfl) rfl rfl rfl dX1_implementingError_8 ⟨rfl, rfl⟩ (fun x_23 => ?_)
  refine S_ifne (pc := 11) (tgt := 17) dX1_implementingError_11 (by decide) ?_ ?_
  · refine S_aload_n (pc := 17) dX1_implementingError_17 rfl ?_
    refine S_aload_n (pc := 18) dX1_implementingError_18 rfl ?_
    refine S_gI (pc := 19) fl_X1_184 rfl dX1_implementingError_19 (fun x_24 => ?_)
    refine S_aload_n (pc := 22) dX1_implementingError_22 rfl ?_
    refine S_gI (pc := 23) fl_X1_48 rfl dX1_implementingError_23 (fun x_25 => ?_)
    refine Y_Vi (pc := 26) (st := []) (kc' := 0) (ks' := 0) (ktX1_canBeBase r0 x_24 x_25) mw_X1_canBeBase mv_X1_canBeBase w530 (RO.mk rfl rfl rfl rfl) rfl rfl rfl dX1_implementingError_26 ⟨rfl, rfl⟩ (fun x_26 => ?_)
    refine S_ifne (pc := 29) (tgt := 35) dX1_implementingError_29 (by decide) ?_ ?_
    · refine S_aload_n (pc := 35) dX1_implementingError_35 rfl ?_
      refine S_gP (pc := 36) fl_X1_30 rfl dX1_implementingError_36 (fun a_27 => ?_)
      refine S_gP (pc := 39) fl_X1_135 rfl dX1_implementingError_39 (fun a_28 => ?_)
      refine S_aload_n (pc := 42) dX1_implementingError_42 rfl ?_
      refine S_gI (pc := 43) fl_X1_184 rfl dX1_implementingError_43 (fun x_29 => ?_)
      refine S_ldI (pc := 46) dX1_implementingError_46 (fun x_30 => ?_)
      refine S_aload_n (pc := 47) dX1_implementingError_47 rfl ?_
      refine S_gP (pc := 48) fl_X1_30 rfl dX1_implementingError_48 (fun a_31 => ?_)
      refine S_gP (pc := 51) fl_X1_135 rfl dX1_implementingError_51 (fun a_32 => ?_)
      refine S_aload_n (pc := 54) dX1_implementingError_54 rfl ?_
      refine S_gI (pc := 55) fl_X1_37 rfl dX1_implementingError_55 (fun x_33 => ?_)
      refine S_ldI (pc := 58) dX1_implementingError_58 (fun x_34 => ?_)
      refine S_ior (pc := 59) dX1_implementingError_59 ?_
      refine Z_istore_n (pc := 60) (lv' := [some (.ref r0), some (.ref r1), some (.int (x_30 ||| x_34))]) dX1_implementingError_60 rfl rfl rfl ?_
      refine S_aload_n (pc := 61) dX1_implementingError_61 rfl ?_
      refine S_gP (pc := 62) fl_X1_30 rfl dX1_implementingError_62 (fun a_35 => ?_)
      refine S_aload_n (pc := 65) dX1_implementingError_65 rfl ?_
      refine S_gP (pc := 66) fl_X1_30 rfl dX1_implementingError_66 (fun a_36 => ?_)
      refine S_gP (pc := 69) fl_X1_178 rfl dX1_implementingError_69 (fun a_37 => ?_)
      refine S_aload_n (pc := 72) dX1_implementingError_72 rfl ?_
      refine S_gI (pc := 73) fl_X1_184 rfl dX1_implementingError_73 (fun x_38 => ?_)
      refine S_ldI (pc := 76) dX1_implementingError_76 (fun x_39 => ?_)
      refine S_iload_n (pc := 77) dX1_implementingError_77 rfl ?_
      refine Y_Vi (pc := 78) (st := []) (kc' := 0) (ks' := 0) (ktX2_isIncomplete a_35 x_39 (x_30 ||| x_34)) mw_X2_isIncomplete mv_X2_isIncomplete w513 (RO.mk rfl rfl rfl rfl) rfl rfl rfl dX1_implementingError_78 ⟨rfl, rfl⟩ (fun x_40 => ?_)
      refine S_ifeq (pc := 81) (tgt := 89) dX1_implementingError_81 (by decide) ?_ ?_
      · refine S_iconst (pc := 89) (v := (nI 0)) dX1_implementingError_89 kI_0 ?_
        exact S_iret (pc := 90) ⟨rfl, rfl⟩ rfl rfl dX1_implementingError_90
      · refine S_bipush (pc := 84) (v := (nI 7)) dX1_implementingError_84 kB_7 ?_
        refine S_goto (pc := 86) (tgt := 90) dX1_implementingError_86 (by decide) ?_
        exact S_iret (pc := 90) ⟨rfl, rfl⟩ rfl rfl dX1_implementingError_90
    · refine S_bipush (pc := 32) (v := (nI 8)) dX1_implementingError_32 kB_8 ?_
      exact S_iret (pc := 34) ⟨rfl, rfl⟩ rfl rfl dX1_implementingError_34
  · refine S_bipush (pc := 14) (v := (nI 6)) dX1_implementingError_14 kB_6 ?_
    exact S_iret (pc := 16) ⟨rfl, rfl⟩ rfl rfl dX1_implementingError_16
theorem ktX1_implementingError (r0 : Nat) (r1 : Nat) : Ct mX1_implementingError rI [.ref r0, .ref r1] (fX1_implementingError r0 r1) := Ct.of (z := 1) pn_X1 rfl rfl rfl (sX1_implementingError r0 r1)
def mX1_errorOf : MI := (yX1_errorOf, cX1_errorOf, 2, (some .int), { frames := 4, cells := 0, slots := 0, locals := 105 }, [])
theorem mw_X1_errorOf : MW mX1_errorOf 1 := ⟨w445, w8, ⟨by decide, by decide⟩, by decide +kernel⟩
theorem mv_X1_errorOf : MV mX1_errorOf 1 := ⟨_, rfl, w443, w444⟩
def fX1_errorOf  (r0 : Nat) (r1 : Nat) : AH → Option (Int32 × AH) := fun h =>
  (gP 1 r0 1 h).bind fun a_19 =>
  cv 7 a_19 (fX7_clear a_19) h fun _ h =>
  (pZ 1 r0 4 (nI 0) h).bind fun h =>
  (gP 1 r0 0 h).bind fun a_20 =>
  (gI 0 r1 1 h).bind fun x_21 =>
  cv 2 a_20 (fX2_isThere a_20 x_21) h fun x_22 h =>
  if x_22 = 0 then (
    some ((nI 1), h))
  else
  (gP 1 r0 0 h).bind fun a_23 =>
  (gI 0 r1 1 h).bind fun x_24 =>
  (gI 0 r1 3 h).bind fun x_25 =>
  cv 2 a_23 (fX2_isClassOpen a_23 x_24 x_25) h fun x_26 h =>
  if x_26 = 0 then (
    some ((nI 2), h))
  else
  (gI 0 r1 0 h).bind fun x_27 =>
  if x_27 = (nI 0) then (
    cv 1 r0 (fX1_fieldError r0 r1) h fun x_28 h =>
    some (x_28, h))
  else
  if x_27 = (nI 1) then (
    cv 1 r0 (fX1_fieldError r0 r1) h fun x_29 h =>
    some (x_29, h))
  else
  if x_27 = (nI 2) then (
    cv 1 r0 (fX1_callError r0 r1) h fun x_30 h =>
    some (x_30, h))
  else
  if x_27 = (nI 3) then (
    (gP 1 r0 0 h).bind fun a_31 =>
    (gI 0 r1 1 h).bind fun x_32 =>
    cv 2 a_31 (fX2_isAbstract a_31 x_32) h fun x_33 h =>
    if x_33 = 0 then (
      some ((nI 0), h))
    else
    some ((nI 6), h))
  else
  if x_27 = (nI 4) then (
    (gI 0 r1 1 h).bind fun x_34 =>
    cv 1 r0 (fX1_extendingError r0 x_34) h fun x_35 h =>
    some (x_35, h))
  else
  cv 1 r0 (fX1_implementingError r0 r1) h fun x_36 h =>
  some (x_36, h)
theorem sX1_errorOf  (r0 : Nat) (r1 : Nat) : Sm mX1_errorOf rI 0 0 0 [some (.ref r0), some (.ref r1)] [] (fX1_errorOf r0 r1) := by
  unfold fX1_errorOf
  refine S_aload_n (pc := 0) dX1_errorOf_0 rfl ?_
  refine S_gP (pc := 1) fl_X1_12 rfl dX1_errorOf_1 (fun a_19 => ?_)
  refine Y_Vv (pc := 4) (st := []) (kc' := 0) (ks' := 0) (ktX7_clear a_19) mw_X7_clear mv_X7_clear w446 (RO.mk rfl rfl rfl rfl) rfl rfl rfl dX1_errorOf_4 ⟨rfl, rfl⟩ ?_
  refine S_aload_n (pc := 7) dX1_errorOf_7 rfl ?_
  refine S_iconst (pc := 8) (v := (nI 0)) dX1_errorOf_8 kI_0 ?_
  refine S_pZ (pc := 9) fl_X1_26 rfl rfl dX1_errorOf_9 ?_
  refine S_aload_n (pc := 12) dX1_errorOf_12 rfl ?_
  refine S_gP (pc := 13) fl_X1_30 rfl dX1_errorOf_13 (fun a_20 => ?_)
  refine S_aload_n (pc := 16) dX1_errorOf_16 rfl ?_
  refine S_gI (pc := 17) fl_X1_37 rfl dX1_errorOf_17 (fun x_21 => ?_)
  refine Y_Vi (pc := 20) (st := []) (kc' := 0) (ks' := 0) (ktX2_isThere a_20 x_21) mw_X2_isThere mv_X2_isThere w447 (RO.mk rfl rfl rfl rfl) rfl rfl rfl dX1_errorOf_20 ⟨rfl, rfl⟩ (fun x_22 => ?_)
  refine S_ifne (pc := 23) (tgt := 28) dX1_errorOf_23 (by decide) ?_ ?_
  · refine S_aload_n (pc := 28) dX1_errorOf_28 rfl ?_
    refine S_gP (pc := 29) fl_X1_30 rfl dX1_errorOf_29 (fun a_23 => ?_)
    refine S_aload_n (pc := 32) dX1_errorOf_32 rfl ?_
    refine S_gI (pc := 33) fl_X1_37 rfl dX1_errorOf_33 (fun x_24 => ?_)
    refine S_aload_n (pc := 36) dX1_errorOf_36 rfl ?_
    refine S_gI (pc := 37) fl_X1_48 rfl dX1_errorOf_37 (fun x_25 => ?_)
    refine Y_Vi (pc := 40) (st := []) (kc' := 0) (ks' := 0) (ktX2_isClassOpen a_23 x_24 x_25) mw_X2_isClassOpen mv_X2_isClassOpen w448 (RO.mk rfl rfl rfl rfl) rfl rfl rfl dX1_errorOf_40 ⟨rfl, rfl⟩ (fun x_26 => ?_)
    refine S_ifne (pc := 43) (tgt := 48) dX1_errorOf_43 (by decide) ?_ ?_
    · refine S_aload_n (pc := 48) dX1_errorOf_48 rfl ?_
      refine S_gI (pc := 49) fl_X1_55 rfl dX1_errorOf_49 (fun x_27 => ?_)
      refine S_case (x := x_27) (v := (nI 0)) (fun n0 => ?_) (fun n0 => ?_)
      · refine S_tsI (pc := 52) (tgt := 88) n0 dX1_errorOf_52 (by decide) rfl (by decide) ?_
        refine S_aload_n (pc := 88) dX1_errorOf_88 rfl ?_
        refine S_aload_n (pc := 89) dX1_errorOf_89 rfl ?_
        refine Y_Vi (pc := 90) (st := []) (kc' := 0) (ks' := 0) (ktX1_fieldError r0 r1) mw_X1_fieldError mv_X1_fieldError w452 (RO.mk rfl rfl rfl rfl) rfl rfl rfl dX1_errorOf_90 ⟨rfl, rfl⟩ (fun x_28 => ?_)
        exact S_iret (pc := 93) ⟨rfl, rfl⟩ rfl rfl dX1_errorOf_93
      refine S_case (x := x_27) (v := (nI 1)) (fun n1 => ?_) (fun n1 => ?_)
      · refine S_tsI (pc := 52) (tgt := 88) n1 dX1_errorOf_52 (by decide) rfl (by decide) ?_
        refine S_aload_n (pc := 88) dX1_errorOf_88 rfl ?_
        refine S_aload_n (pc := 89) dX1_errorOf_89 rfl ?_
        refine Y_Vi (pc := 90) (st := []) (kc' := 0) (ks' := 0) (ktX1_fieldError r0 r1) mw_X1_fieldError mv_X1_fieldError w452 (RO.mk rfl rfl rfl rfl) rfl rfl rfl dX1_errorOf_90 ⟨rfl, rfl⟩ (fun x_29 => ?_)
        exact S_iret (pc := 93) ⟨rfl, rfl⟩ rfl rfl dX1_errorOf_93
      refine S_case (x := x_27) (v := (nI 2)) (fun n2 => ?_) (fun n2 => ?_)
      · refine S_tsI (pc := 52) (tgt := 94) n2 dX1_errorOf_52 (by decide) rfl (by decide) ?_
        refine S_aload_n (pc := 94) dX1_errorOf_94 rfl ?_
        refine S_aload_n (pc := 95) dX1_errorOf_95 rfl ?_
        refine Y_Vi (pc := 96) (st := []) (kc' := 0) (ks' := 0) (ktX1_callError r0 r1) mw_X1_callError mv_X1_callError w468 (RO.mk rfl rfl rfl rfl) rfl rfl rfl dX1_errorOf_96 ⟨rfl, rfl⟩ (fun x_30 => ?_)
        exact S_iret (pc := 99) ⟨rfl, rfl⟩ rfl rfl dX1_errorOf_99
      refine S_case (x := x_27) (v := (nI 3)) (fun n3 => ?_) (fun n3 => ?_)
      · refine S_tsI (pc := 52) (tgt := 100) n3 dX1_errorOf_52 (by decide) rfl (by decide) ?_
        refine S_aload_n (pc := 100) dX1_errorOf_100 rfl ?_
        refine S_gP (pc := 101) fl_X1_30 rfl dX1_errorOf_101 (fun a_31 => ?_)
        refine S_aload_n (pc := 104) dX1_errorOf_104 rfl ?_
        refine S_gI (pc := 105) fl_X1_37 rfl dX1_errorOf_105 (fun x_32 => ?_)
        refine Y_Vi (pc := 108) (st := []) (kc' := 0) (ks' := 0) (ktX2_isAbstract a_31 x_32) mw_X2_isAbstract mv_X2_isAbstract w501 (RO.mk rfl rfl rfl rfl) rfl rfl rfl dX1_errorOf_108 ⟨rfl, rfl⟩ (fun x_33 => ?_)
        refine S_ifeq (pc := 111) (tgt := 119) dX1_errorOf_111 (by decide) ?_ ?_
        · refine S_iconst (pc := 119) (v := (nI 0)) dX1_errorOf_119 kI_0 ?_
          exact S_iret (pc := 120) ⟨rfl, rfl⟩ rfl rfl dX1_errorOf_120
        · refine S_bipush (pc := 114) (v := (nI 6)) dX1_errorOf_114 kB_6 ?_
          refine S_goto (pc := 116) (tgt := 120) dX1_errorOf_116 (by decide) ?_
          exact S_iret (pc := 120) ⟨rfl, rfl⟩ rfl rfl dX1_errorOf_120
      refine S_case (x := x_27) (v := (nI 4)) (fun n4 => ?_) (fun n4 => ?_)
      · refine S_tsI (pc := 52) (tgt := 121) n4 dX1_errorOf_52 (by decide) rfl (by decide) ?_
        refine S_aload_n (pc := 121) dX1_errorOf_121 rfl ?_
        refine S_aload_n (pc := 122) dX1_errorOf_122 rfl ?_
        refine S_gI (pc := 123) fl_X1_37 rfl dX1_errorOf_123 (fun x_34 => ?_)
        refine Y_Vi (pc := 126) (st := []) (kc' := 0) (ks' := 0) (ktX1_extendingError r0 x_34) mw_X1_extendingError mv_X1_extendingError w505 (RO.mk rfl rfl rfl rfl) rfl rfl rfl dX1_errorOf_126 ⟨rfl, rfl⟩ (fun x_35 => ?_)
        exact S_iret (pc := 129) ⟨rfl, rfl⟩ rfl rfl dX1_errorOf_129
      refine S_tsD (pc := 52) (tgt := 130) (by have n0 := lv_neT (a := 0) n0 rfl; have n1 := lv_neT (a := 1) n1 rfl; have n2 := lv_neT (a := 2) n2 rfl; have n3 := lv_neT (a := 3) n3 rfl; have n4 := lv_neT (a := 4) n4 rfl; omega) dX1_errorOf_52 (by decide) ?_
      refine S_aload_n (pc := 130) dX1_errorOf_130 rfl ?_
      refine S_aload_n (pc := 131) dX1_errorOf_131 rfl ?_
      refine Y_Vi (pc := 132) (st := []) (kc' := 0) (ks' := 0) (ktX1_implementingError r0 r1) mw_X1_implementingError mv_X1_implementingError w526 (RO.mk rfl rfl rfl rfl) rfl rfl rfl dX1_errorOf_132 ⟨rfl, rfl⟩ (fun x_36 => ?_)
      exact S_iret (pc := 135) ⟨rfl, rfl⟩ rfl rfl dX1_errorOf_135
    · refine S_iconst (pc := 46) (v := (nI 2)) dX1_errorOf_46 kI_2 ?_
      exact S_iret (pc := 47) ⟨rfl, rfl⟩ rfl rfl dX1_errorOf_47
  · refine S_iconst (pc := 26) (v := (nI 1)) dX1_errorOf_26 kI_1 ?_
    exact S_iret (pc := 27) ⟨rfl, rfl⟩ rfl rfl dX1_errorOf_27
theorem ktX1_errorOf (r0 : Nat) (r1 : Nat) : Ct mX1_errorOf rI [.ref r0, .ref r1] (fX1_errorOf r0 r1) := Ct.of (z := 0) pn_X1 rfl rfl rfl (sX1_errorOf r0 r1)
def mX1_init : MI := (yX1_init, cX1_init, 2, none, { frames := 2, cells := 2, slots := 47, locals := 40 }, [])
theorem mw_X1_init : MW mX1_init 1 := ⟨w320, w8, ⟨by decide, by decide⟩, by decide +kernel⟩
def fX1_init  (r0 : Nat) (r1 : Nat) : AH → Option (Unit × AH) := fun h =>
  bd (nwO 7 h) fun a_3 h =>
  bd (fX7_init a_3 h) fun _ h =>
  (pP 1 r0 1 a_3 h).bind fun h =>
  bd (nwI (nI 40) h) fun a_4 h =>
  (pP 1 r0 2 a_4 h).bind fun h =>
  (pI 1 r0 3 (nI 0) h).bind fun h =>
  (pZ 1 r0 4 (nI 0) h).bind fun h =>
  (pP 1 r0 0 r1 h).bind fun h =>
  some ((), h)
theorem sX1_init  (r0 : Nat) (r1 : Nat) : Sm mX1_init rV 0 0 0 [some (.ref r0), some (.ref r1)] [] (fX1_init r0 r1) := by
  unfold fX1_init
  refine S_aload_n (pc := 0) dX1_init_0 rfl ?_
  refine S_obj (pc := 1) w321 w25 w26 ⟨rfl, rfl⟩ dX1_init_1 ?_
  refine S_aload_n (pc := 4) dX1_init_4 rfl ?_
  refine S_new (pc := 5) (c := 7) rfl w322 w173 w6 ⟨rfl, rfl⟩ dX1_init_5 (fun a_3 => ?_)
  refine S_dup (pc := 8) rfl dX1_init_8 ?_
  refine Y_IN (pc := 9) (st := [.ref a_3, .ref r0]) (kc' := 1) (ks' := 7) (ktX7_init a_3) mw_X7_init rfl rfl w175 nw_X1_11_X7_init (RO.mk rfl rfl rfl rfl) rfl rfl rfl dX1_init_9 ⟨rfl, rfl⟩ ?_
  refine S_pF (pc := 12) fl_X1_12 rfl rfl rfl (fun r hr => by cases hr; rfl) dX1_init_12 ?_
  refine S_aload_n (pc := 15) dX1_init_15 rfl ?_
  refine S_bipush (pc := 16) (v := (nI 40)) dX1_init_16 kB_40 ?_
  refine S_nwI (pc := 18) (N := 40) w119 (by decide) ⟨rfl, rfl, rfl⟩ dX1_init_18 (fun a_4 => ?_)
  refine S_pF (pc := 20) fl_X1_18 rfl rfl rfl (fun r hr => by cases hr; rfl) dX1_init_20 ?_
  refine S_aload_n (pc := 23) dX1_init_23 rfl ?_
  refine S_iconst (pc := 24) (v := (nI 0)) dX1_init_24 kI_0 ?_
  refine S_pI (pc := 25) fl_X1_22 rfl rfl dX1_init_25 ?_
  refine S_aload_n (pc := 28) dX1_init_28 rfl ?_
  refine S_iconst (pc := 29) (v := (nI 0)) dX1_init_29 kI_0 ?_
  refine S_pZ (pc := 30) fl_X1_26 rfl rfl dX1_init_30 ?_
  refine S_aload_n (pc := 33) dX1_init_33 rfl ?_
  refine S_aload_n (pc := 34) dX1_init_34 rfl ?_
  refine S_pF (pc := 35) fl_X1_30 rfl rfl rfl (fun r hr => by cases hr; rfl) dX1_init_35 ?_
  exact S_vret (pc := 38) ⟨rfl, rfl⟩ rfl rfl dX1_init_38
theorem ktX1_init (r0 : Nat) (r1 : Nat) : Ct mX1_init rV [.ref r0, .ref r1] (fX1_init r0 r1) := Ct.of (z := 0) pn_X1 rfl rfl rfl (sX1_init r0 r1)
def mX3_runs : MI := (yX3_runs, cX3_runs, 4, (some .boolean), { frames := 2, cells := 0, slots := 0, locals := 59 }, [])
theorem mw_X3_runs : MW mX3_runs 2 := ⟨w652, w9, ⟨by decide, by decide⟩, by decide +kernel⟩
theorem mv_X3_runs : MV mX3_runs 3 := ⟨_, rfl, w651, wp19⟩
def fX3_runs  (r0 : Nat) (v1 : Int32) (v2 : Int32) : AH → Option (Int32 × AH) := fun h =>
  (gP 3 r0 0 h).bind fun a_16 =>
  cv 2 a_16 (fX2_isInterface a_16 v1) h fun x_17 h =>
  if x_17 = 0 then (
    (gP 3 r0 0 h).bind fun a_18 =>
    cv 2 a_18 (fX2_isAbstract a_18 v1) h fun x_19 h =>
    if x_19 = 0 then (
      (gP 3 r0 0 h).bind fun a_20 =>
      (gP 3 r0 0 h).bind fun a_21 =>
      (gP 2 a_21 9 h).bind fun a_22 =>
      (ldI a_22 v1 h).bind fun x_23 =>
      (gP 3 r0 0 h).bind fun a_24 =>
      (gP 2 a_24 8 h).bind fun a_25 =>
      (ldI a_25 v1 h).bind fun x_26 =>
      cv 2 a_20 (fX2_selectedAlong a_20 v2 x_23 x_26) h fun x_27 h =>
      if x_27 = (-2 : Int32) then (
        rz (nI 0) (nI 0) h)
      else
      (gP 3 r0 0 h).bind fun a_28 =>
      (gP 2 a_28 10 h).bind fun a_29 =>
      cv 4 a_29 (fX4_isAbstract a_29 x_27) h fun x_30 h =>
      if x_30 = 0 then (
        rz (nI 1) (nI 1) h)
      else
      rz (nI 0) (nI 0) h)
    else
    rz (nI 1) (nI 1) h)
  else
  rz (nI 1) (nI 1) h
theorem sX3_runs  (r0 : Nat) (v1 : Int32) (v2 : Int32) : Sm mX3_runs rI 0 0 0 [some (.ref r0), some (.int v1), some (.int v2), none] [] (fX3_runs r0 v1 v2) := by
  unfold fX3_runs
  refine S_aload_n (pc := 0) dX3_runs_0 rfl ?_
  refine S_gP (pc := 1) fl_X3_15 rfl dX3_runs_1 (fun a_16 => ?_)
  refine S_iload_n (pc := 4) dX3_runs_4 rfl ?_
  refine Y_Vi (pc := 5) (st := []) (kc' := 0) (ks' := 0) (ktX2_isInterface a_16 v1) mw_X2_isInterface mv_X2_isInterface w642 (RO.mk rfl rfl rfl rfl) rfl rfl rfl dX3_runs_5 ⟨rfl, rfl⟩ (fun x_17 => ?_)
  refine S_ifne (pc := 8) (tgt := 22) dX3_runs_8 (by decide) ?_ ?_
  · refine S_iconst (pc := 22) (v := (nI 1)) dX3_runs_22 kI_1 ?_
    exact S_zret (pc := 23) ⟨rfl, rfl⟩ rfl rfl dX3_runs_23
  · refine S_aload_n (pc := 11) dX3_runs_11 rfl ?_
    refine S_gP (pc := 12) fl_X3_15 rfl dX3_runs_12 (fun a_18 => ?_)
    refine S_iload_n (pc := 15) dX3_runs_15 rfl ?_
    refine Y_Vi (pc := 16) (st := []) (kc' := 0) (ks' := 0) (ktX2_isAbstract a_18 v1) mw_X2_isAbstract mv_X2_isAbstract w653 (RO.mk rfl rfl rfl rfl) rfl rfl rfl dX3_runs_16 ⟨rfl, rfl⟩ (fun x_19 => ?_)
    refine S_ifeq (pc := 19) (tgt := 24) dX3_runs_19 (by decide) ?_ ?_
    · refine S_aload_n (pc := 24) dX3_runs_24 rfl ?_
      refine S_gP (pc := 25) fl_X3_15 rfl dX3_runs_25 (fun a_20 => ?_)
      refine S_iload_n (pc := 28) dX3_runs_28 rfl ?_
      refine S_aload_n (pc := 29) dX3_runs_29 rfl ?_
      refine S_gP (pc := 30) fl_X3_15 rfl dX3_runs_30 (fun a_21 => ?_)
      refine S_gP (pc := 33) fl_X3_122 rfl dX3_runs_33 (fun a_22 => ?_)
      refine S_iload_n (pc := 36) dX3_runs_36 rfl ?_
      refine S_ldI (pc := 37) dX3_runs_37 (fun x_23 => ?_)
      refine S_aload_n (pc := 38) dX3_runs_38 rfl ?_
      refine S_gP (pc := 39) fl_X3_15 rfl dX3_runs_39 (fun a_24 => ?_)
      refine S_gP (pc := 42) fl_X3_125 rfl dX3_runs_42 (fun a_25 => ?_)
      refine S_iload_n (pc := 45) dX3_runs_45 rfl ?_
      refine S_ldI (pc := 46) dX3_runs_46 (fun x_26 => ?_)
      refine Y_Vi (pc := 47) (st := []) (kc' := 0) (ks' := 0) (ktX2_selectedAlong a_20 v2 x_23 x_26) mw_X2_selectedAlong mv_X2_selectedAlong w654 (RO.mk rfl rfl rfl rfl) rfl rfl rfl dX3_runs_47 ⟨rfl, rfl⟩ (fun x_27 => ?_)
      refine Z_istore_n (pc := 50) (lv' := [some (.ref r0), some (.int v1), some (.int v2), some (.int x_27)]) dX3_runs_50 rfl rfl rfl ?_
      refine S_iload_n (pc := 51) dX3_runs_51 rfl ?_
      refine S_bipush (pc := 52) (v := (-2 : Int32)) dX3_runs_52 kB_m2 ?_
      refine S_icmpeq (pc := 54) (tgt := 75) dX3_runs_54 (by decide) ?_ ?_
      · refine S_iconst (pc := 75) (v := (nI 0)) dX3_runs_75 kI_0 ?_
        exact S_zret (pc := 76) ⟨rfl, rfl⟩ rfl rfl dX3_runs_76
      · refine S_aload_n (pc := 57) dX3_runs_57 rfl ?_
        refine S_gP (pc := 58) fl_X3_15 rfl dX3_runs_58 (fun a_28 => ?_)
        refine S_gP (pc := 61) fl_X3_81 rfl dX3_runs_61 (fun a_29 => ?_)
        refine S_iload_n (pc := 64) dX3_runs_64 rfl ?_
        refine Y_Vi (pc := 65) (st := []) (kc' := 0) (ks' := 0) (ktX4_isAbstract a_29 x_27) mw_X4_isAbstract mv_X4_isAbstract w655 (RO.mk rfl rfl rfl rfl) rfl rfl rfl dX3_runs_65 ⟨rfl, rfl⟩ (fun x_30 => ?_)
        refine S_ifne (pc := 68) (tgt := 75) dX3_runs_68 (by decide) ?_ ?_
        · refine S_iconst (pc := 75) (v := (nI 0)) dX3_runs_75 kI_0 ?_
          exact S_zret (pc := 76) ⟨rfl, rfl⟩ rfl rfl dX3_runs_76
        · refine S_iconst (pc := 71) (v := (nI 1)) dX3_runs_71 kI_1 ?_
          refine S_goto (pc := 72) (tgt := 76) dX3_runs_72 (by decide) ?_
          exact S_zret (pc := 76) ⟨rfl, rfl⟩ rfl rfl dX3_runs_76
    · refine S_iconst (pc := 22) (v := (nI 1)) dX3_runs_22 kI_1 ?_
      exact S_zret (pc := 23) ⟨rfl, rfl⟩ rfl rfl dX3_runs_23
theorem ktX3_runs (r0 : Nat) (v1 : Int32) (v2 : Int32) : Ct mX3_runs rI [.ref r0, .int v1, .int v2] (fX3_runs r0 v1 v2) := Ct.of (z := 1) pn_X3 rfl rfl rfl (sX3_runs r0 v1 v2)
def mX3_callError : MI := (yX3_callError, cX3_callError, 7, (some .int), { frames := 3, cells := 0, slots := 0, locals := 82 }, [])
theorem mw_X3_callError : MW mX3_callError 1 := ⟨w641, w9, ⟨by decide, by decide⟩, by decide +kernel⟩
theorem mv_X3_callError : MV mX3_callError 3 := ⟨_, rfl, w640, wp18⟩
def fX3_callError_147  (r0 : Nat) (v5 : Int32) : AH → Option (Int32 × AH) := fun h =>
  (gP 3 r0 0 h).bind fun a_55 =>
  (gP 2 a_55 10 h).bind fun a_56 =>
  (gP 4 a_56 5 h).bind fun a_57 =>
  (ldI a_57 v5 h).bind fun x_58 =>
  (pI 3 r0 1 x_58 h).bind fun h =>
  some ((nI 0), h)
def fX3_callError_24  (r0 : Nat) (r1 : Nat) (r2 : Nat) (s0 : Int32) : AH → Option (Int32 × AH) := fun h =>
  (gI 7 r2 6 h).bind fun x_59 =>
  if s0 = x_59 then (
    (gI 0 r1 2 h).bind fun x_60 =>
    (gI 7 r2 4 h).bind fun x_61 =>
    (gI 7 r2 5 h).bind fun x_62 =>
    bd (fX4_signatureOf x_60 x_61 x_62 h) fun x_63 h =>
    (gI 7 r2 2 h).bind fun x_64 =>
    bd (fX4_descriptorOf x_63 x_64 h) fun x_65 h =>
    (gP 3 r0 0 h).bind fun a_66 =>
    (gI 0 r1 1 h).bind fun x_67 =>
    cv 2 a_66 (fX2_methodFor a_66 x_67 x_65) h fun x_68 h =>
    if x_68 = (-2 : Int32) then (
      some ((nI 4), h))
    else
    (gP 3 r0 0 h).bind fun a_69 =>
    cv 2 a_69 (fX2_isMemberOpen a_69 x_68 r1) h fun x_70 h =>
    if x_70 = 0 then (
      some ((nI 2), h))
    else
    (gP 3 r0 0 h).bind fun a_71 =>
    (gP 2 a_71 10 h).bind fun a_72 =>
    (gP 4 a_72 2 h).bind fun a_73 =>
    (ldI a_73 x_68 h).bind fun x_74 =>
    (gI 7 r2 3 h).bind fun x_75 =>
    if (x_74 &&& (nI 1)) = x_75 then (
      if (x_74 &&& (nI 1)) = 0 then (
        (gI 0 r1 1 h).bind fun x_76 =>
        cv 3 r0 (fX3_runs r0 x_76 x_65) h fun x_77 h =>
        if x_77 = 0 then (
          some ((nI 6), h))
        else
        fX3_callError_147 r0 x_68 h)
      else
      fX3_callError_147 r0 x_68 h)
    else
    some ((nI 5), h))
  else
  some ((nI 5), h)
def fX3_callError  (r0 : Nat) (r1 : Nat) : AH → Option (Int32 × AH) := fun h =>
  (gP 0 r1 8 h).bind fun a_78 =>
  (gP 3 r0 0 h).bind fun a_79 =>
  (gI 0 r1 1 h).bind fun x_80 =>
  cv 2 a_79 (fX2_isInterface a_79 x_80) h fun x_81 h =>
  if x_81 = 0 then (
    fX3_callError_24 r0 r1 a_78 (nI 0) h)
  else
  fX3_callError_24 r0 r1 a_78 (nI 1) h
theorem sX3_callError_147  (r0 : Nat) (v5 : Int32) : Sm mX3_callError rI 0 0 147 [some (.ref r0), none, none, none, none, some (.int v5), none] [] (fX3_callError_147 r0 v5) := by
  unfold fX3_callError_147
  refine S_aload_n (pc := 147) dX3_callError_147 rfl ?_
  refine S_aload_n (pc := 148) dX3_callError_148 rfl ?_
  refine S_gP (pc := 149) fl_X3_15 rfl dX3_callError_149 (fun a_55 => ?_)
  refine S_gP (pc := 152) fl_X3_81 rfl dX3_callError_152 (fun a_56 => ?_)
  refine S_gP (pc := 155) fl_X3_94 rfl dX3_callError_155 (fun a_57 => ?_)
  refine S_iload (pc := 158) dX3_callError_158 rfl ?_
  refine S_ldI (pc := 160) dX3_callError_160 (fun x_58 => ?_)
  refine S_pI (pc := 161) fl_X3_9 rfl rfl dX3_callError_161 ?_
  refine S_iconst (pc := 164) (v := (nI 0)) dX3_callError_164 kI_0 ?_
  exact S_iret (pc := 165) ⟨rfl, rfl⟩ rfl rfl dX3_callError_165
theorem sX3_callError_24  (r0 : Nat) (r1 : Nat) (r2 : Nat) (s0 : Int32) : Sm mX3_callError rI 0 0 24 [some (.ref r0), some (.ref r1), some (.ref r2), none, none, none, none] [.int s0] (fX3_callError_24 r0 r1 r2 s0) := by
  unfold fX3_callError_24
  refine S_aload_n (pc := 24) dX3_callError_24 rfl ?_
  refine S_gI (pc := 25) fl_X3_100 rfl dX3_callError_25 (fun x_59 => ?_)
  refine S_icmpeq (pc := 28) (tgt := 33) dX3_callError_28 (by decide) ?_ ?_
  · refine S_aload_n (pc := 33) dX3_callError_33 rfl ?_
    refine S_gI (pc := 34) fl_X3_67 rfl dX3_callError_34 (fun x_60 => ?_)
    refine S_aload_n (pc := 37) dX3_callError_37 rfl ?_
    refine S_gI (pc := 38) fl_X3_103 rfl dX3_callError_38 (fun x_61 => ?_)
    refine S_aload_n (pc := 41) dX3_callError_41 rfl ?_
    refine S_gI (pc := 42) fl_X3_106 rfl dX3_callError_42 (fun x_62 => ?_)
    refine Y_Ti (pc := 45) (st := []) (kc' := 0) (ks' := 0) (ktX4_signatureOf x_60 x_61 x_62) mw_X4_signatureOf w397 w643 (RO.mk rfl rfl rfl rfl) rfl rfl rfl dX3_callError_45 ⟨rfl, rfl⟩ (fun x_63 => ?_)
    refine Z_istore_n (pc := 48) (lv' := [some (.ref r0), some (.ref r1), some (.ref r2), some (.int x_63), none, none, none]) dX3_callError_48 rfl rfl rfl ?_
    refine S_iload_n (pc := 49) dX3_callError_49 rfl ?_
    refine S_aload_n (pc := 50) dX3_callError_50 rfl ?_
    refine S_gI (pc := 51) fl_X3_70 rfl dX3_callError_51 (fun x_64 => ?_)
    refine Y_Ti (pc := 54) (st := []) (kc' := 0) (ks' := 0) (ktX4_descriptorOf x_63 x_64) mw_X4_descriptorOf w400 w644 (RO.mk rfl rfl rfl rfl) rfl rfl rfl dX3_callError_54 ⟨rfl, rfl⟩ (fun x_65 => ?_)
    refine Z_istore (pc := 57) (lv' := [some (.ref r0), some (.ref r1), some (.ref r2), some (.int x_63), some (.int x_65), none, none]) dX3_callError_57 rfl rfl rfl ?_
    refine S_aload_n (pc := 59) dX3_callError_59 rfl ?_
    refine S_gP (pc := 60) fl_X3_15 rfl dX3_callError_60 (fun a_66 => ?_)
    refine S_aload_n (pc := 63) dX3_callError_63 rfl ?_
    refine S_gI (pc := 64) fl_X3_31 rfl dX3_callError_64 (fun x_67 => ?_)
    refine S_iload (pc := 67) dX3_callError_67 rfl ?_
    refine Y_Vi (pc := 69) (st := []) (kc' := 0) (ks' := 0) (ktX2_methodFor a_66 x_67 x_65) mw_X2_methodFor mv_X2_methodFor w645 (RO.mk rfl rfl rfl rfl) rfl rfl rfl dX3_callError_69 ⟨rfl, rfl⟩ (fun x_68 => ?_)
    refine Z_istore (pc := 72) (lv' := [some (.ref r0), some (.ref r1), some (.ref r2), some (.int x_63), some (.int x_65), some (.int x_68), none]) dX3_callError_72 rfl rfl rfl ?_
    refine S_iload (pc := 74) dX3_callError_74 rfl ?_
    refine S_bipush (pc := 76) (v := (-2 : Int32)) dX3_callError_76 kB_m2 ?_
    refine S_icmpne (pc := 78) (tgt := 83) dX3_callError_78 (by decide) ?_ ?_
    · refine S_aload_n (pc := 83) dX3_callError_83 rfl ?_
      refine S_gP (pc := 84) fl_X3_15 rfl dX3_callError_84 (fun a_69 => ?_)
      refine S_iload (pc := 87) dX3_callError_87 rfl ?_
      refine S_aload_n (pc := 89) dX3_callError_89 rfl ?_
      refine Y_Vi (pc := 90) (st := []) (kc' := 0) (ks' := 0) (ktX2_isMemberOpen a_69 x_68 r1) mw_X2_isMemberOpen mv_X2_isMemberOpen w637 (RO.mk rfl rfl rfl rfl) rfl rfl rfl dX3_callError_90 ⟨rfl, rfl⟩ (fun x_70 => ?_)
      refine S_ifne (pc := 93) (tgt := 98) dX3_callError_93 (by decide) ?_ ?_
      · refine S_aload_n (pc := 98) dX3_callError_98 rfl ?_
        refine S_gP (pc := 99) fl_X3_15 rfl dX3_callError_99 (fun a_71 => ?_)
        refine S_gP (pc := 102) fl_X3_81 rfl dX3_callError_102 (fun a_72 => ?_)
        refine S_gP (pc := 105) fl_X3_85 rfl dX3_callError_105 (fun a_73 => ?_)
        refine S_iload (pc := 108) dX3_callError_108 rfl ?_
        refine S_ldI (pc := 110) dX3_callError_110 (fun x_74 => ?_)
        refine S_iconst (pc := 111) (v := (nI 1)) dX3_callError_111 kI_1 ?_
        refine S_iand (pc := 112) dX3_callError_112 ?_
        refine Z_istore (pc := 113) (lv' := [some (.ref r0), some (.ref r1), some (.ref r2), some (.int x_63), some (.int x_65), some (.int x_68), some (.int (x_74 &&& (nI 1)))]) dX3_callError_113 rfl rfl rfl ?_
        refine S_iload (pc := 115) dX3_callError_115 rfl ?_
        refine S_aload_n (pc := 117) dX3_callError_117 rfl ?_
        refine S_gI (pc := 118) fl_X3_91 rfl dX3_callError_118 (fun x_75 => ?_)
        refine S_icmpeq (pc := 121) (tgt := 126) dX3_callError_121 (by decide) ?_ ?_
        · refine S_iload (pc := 126) dX3_callError_126 rfl ?_
          refine S_ifne (pc := 128) (tgt := 147) dX3_callError_128 (by decide) ?_ ?_
          · exact (S_lv (lv0 := [some (.ref r0), none, none, none, none, some (.int x_68), none]) (And.intro rfl (And.intro rfl trivial)) (sX3_callError_147 r0 x_68))
          · refine S_aload_n (pc := 131) dX3_callError_131 rfl ?_
            refine S_aload_n (pc := 132) dX3_callError_132 rfl ?_
            refine S_gI (pc := 133) fl_X3_31 rfl dX3_callError_133 (fun x_76 => ?_)
            refine S_iload (pc := 136) dX3_callError_136 rfl ?_
            refine Y_Vi (pc := 138) (st := []) (kc' := 0) (ks' := 0) (ktX3_runs r0 x_76 x_65) mw_X3_runs mv_X3_runs w649 (RO.mk rfl rfl rfl rfl) rfl rfl rfl dX3_callError_138 ⟨rfl, rfl⟩ (fun x_77 => ?_)
            refine S_ifne (pc := 141) (tgt := 147) dX3_callError_141 (by decide) ?_ ?_
            · exact (S_lv (lv0 := [some (.ref r0), none, none, none, none, some (.int x_68), none]) (And.intro rfl (And.intro rfl trivial)) (sX3_callError_147 r0 x_68))
            · refine S_bipush (pc := 144) (v := (nI 6)) dX3_callError_144 kB_6 ?_
              exact S_iret (pc := 146) ⟨rfl, rfl⟩ rfl rfl dX3_callError_146
        · refine S_iconst (pc := 124) (v := (nI 5)) dX3_callError_124 kI_5 ?_
          exact S_iret (pc := 125) ⟨rfl, rfl⟩ rfl rfl dX3_callError_125
      · refine S_iconst (pc := 96) (v := (nI 2)) dX3_callError_96 kI_2 ?_
        exact S_iret (pc := 97) ⟨rfl, rfl⟩ rfl rfl dX3_callError_97
    · refine S_iconst (pc := 81) (v := (nI 4)) dX3_callError_81 kI_4 ?_
      exact S_iret (pc := 82) ⟨rfl, rfl⟩ rfl rfl dX3_callError_82
  · refine S_iconst (pc := 31) (v := (nI 5)) dX3_callError_31 kI_5 ?_
    exact S_iret (pc := 32) ⟨rfl, rfl⟩ rfl rfl dX3_callError_32
theorem sX3_callError  (r0 : Nat) (r1 : Nat) : Sm mX3_callError rI 0 0 0 [some (.ref r0), some (.ref r1), none, none, none, none, none] [] (fX3_callError r0 r1) := by
  unfold fX3_callError
  refine S_aload_n (pc := 0) dX3_callError_0 rfl ?_
  refine S_gP (pc := 1) fl_X3_19 rfl dX3_callError_1 (fun a_78 => ?_)
  refine Z_astore_n (pc := 4) (lv' := [some (.ref r0), some (.ref r1), some (.ref a_78), none, none, none, none]) dX3_callError_4 rfl rfl rfl ?_
  refine S_aload_n (pc := 5) dX3_callError_5 rfl ?_
  refine S_gP (pc := 6) fl_X3_15 rfl dX3_callError_6 (fun a_79 => ?_)
  refine S_aload_n (pc := 9) dX3_callError_9 rfl ?_
  refine S_gI (pc := 10) fl_X3_31 rfl dX3_callError_10 (fun x_80 => ?_)
  refine Y_Vi (pc := 13) (st := []) (kc' := 0) (ks' := 0) (ktX2_isInterface a_79 x_80) mw_X2_isInterface mv_X2_isInterface w642 (RO.mk rfl rfl rfl rfl) rfl rfl rfl dX3_callError_13 ⟨rfl, rfl⟩ (fun x_81 => ?_)
  refine S_ifeq (pc := 16) (tgt := 23) dX3_callError_16 (by decide) ?_ ?_
  · refine S_iconst (pc := 23) (v := (nI 0)) dX3_callError_23 kI_0 ?_
    exact (sX3_callError_24 r0 r1 a_78 (nI 0))
  · refine S_iconst (pc := 19) (v := (nI 1)) dX3_callError_19 kI_1 ?_
    refine S_goto (pc := 20) (tgt := 24) dX3_callError_20 (by decide) ?_
    exact (sX3_callError_24 r0 r1 a_78 (nI 1))
theorem ktX3_callError (r0 : Nat) (r1 : Nat) : Ct mX3_callError rI [.ref r0, .ref r1] (fX3_callError r0 r1) := Ct.of (z := 5) pn_X3 rfl rfl rfl (sX3_callError r0 r1)
def mX3_fieldError : MI := (yX3_fieldError, cX3_fieldError, 4, (some .int), { frames := 2, cells := 0, slots := 0, locals := 46 }, [])
theorem mw_X3_fieldError : MW mX3_fieldError 1 := ⟨w635, w9, ⟨by decide, by decide⟩, by decide +kernel⟩
theorem mv_X3_fieldError : MV mX3_fieldError 3 := ⟨_, rfl, w634, wp17⟩
def fX3_fieldError_89  (r0 : Nat) (v2 : Int32) : AH → Option (Int32 × AH) := fun h =>
  (gP 3 r0 0 h).bind fun a_39 =>
  (gP 2 a_39 10 h).bind fun a_40 =>
  (gP 4 a_40 5 h).bind fun a_41 =>
  (ldI a_41 v2 h).bind fun x_42 =>
  (pI 3 r0 1 x_42 h).bind fun h =>
  some ((nI 0), h)
def fX3_fieldError  (r0 : Nat) (r1 : Nat) : AH → Option (Int32 × AH) := fun h =>
  (gP 3 r0 0 h).bind fun a_43 =>
  (gI 0 r1 1 h).bind fun x_44 =>
  (gI 0 r1 2 h).bind fun x_45 =>
  (gP 0 r1 8 h).bind fun a_46 =>
  (gI 7 a_46 2 h).bind fun x_47 =>
  cv 2 a_43 (fX2_fieldFor a_43 x_44 x_45 x_47) h fun x_48 h =>
  if x_48 = (-2 : Int32) then (
    some ((nI 3), h))
  else
  (gP 3 r0 0 h).bind fun a_49 =>
  cv 2 a_49 (fX2_isMemberOpen a_49 x_48 r1) h fun x_50 h =>
  if x_50 = 0 then (
    some ((nI 2), h))
  else
  (gP 3 r0 0 h).bind fun a_51 =>
  (gP 2 a_51 10 h).bind fun a_52 =>
  (gP 4 a_52 2 h).bind fun a_53 =>
  (ldI a_53 x_48 h).bind fun x_54 =>
  (gP 0 r1 8 h).bind fun a_55 =>
  (gI 7 a_55 3 h).bind fun x_56 =>
  if (x_54 &&& (nI 1)) = x_56 then (
    (gI 0 r1 0 h).bind fun x_57 =>
    if x_57 = (nI 1) then (
      if (x_54 &&& (nI 2)) = 0 then (
        fX3_fieldError_89 r0 x_48 h)
      else
      some ((nI 2), h))
    else
    fX3_fieldError_89 r0 x_48 h)
  else
  some ((nI 5), h)
theorem sX3_fieldError_89  (r0 : Nat) (v2 : Int32) : Sm mX3_fieldError rI 0 0 89 [some (.ref r0), none, some (.int v2), none] [] (fX3_fieldError_89 r0 v2) := by
  unfold fX3_fieldError_89
  refine S_aload_n (pc := 89) dX3_fieldError_89 rfl ?_
  refine S_aload_n (pc := 90) dX3_fieldError_90 rfl ?_
  refine S_gP (pc := 91) fl_X3_15 rfl dX3_fieldError_91 (fun a_39 => ?_)
  refine S_gP (pc := 94) fl_X3_81 rfl dX3_fieldError_94 (fun a_40 => ?_)
  refine S_gP (pc := 97) fl_X3_94 rfl dX3_fieldError_97 (fun a_41 => ?_)
  refine S_iload_n (pc := 100) dX3_fieldError_100 rfl ?_
  refine S_ldI (pc := 101) dX3_fieldError_101 (fun x_42 => ?_)
  refine S_pI (pc := 102) fl_X3_9 rfl rfl dX3_fieldError_102 ?_
  refine S_iconst (pc := 105) (v := (nI 0)) dX3_fieldError_105 kI_0 ?_
  exact S_iret (pc := 106) ⟨rfl, rfl⟩ rfl rfl dX3_fieldError_106
theorem sX3_fieldError  (r0 : Nat) (r1 : Nat) : Sm mX3_fieldError rI 0 0 0 [some (.ref r0), some (.ref r1), none, none] [] (fX3_fieldError r0 r1) := by
  unfold fX3_fieldError
  refine S_aload_n (pc := 0) dX3_fieldError_0 rfl ?_
  refine S_gP (pc := 1) fl_X3_15 rfl dX3_fieldError_1 (fun a_43 => ?_)
  refine S_aload_n (pc := 4) dX3_fieldError_4 rfl ?_
  refine S_gI (pc := 5) fl_X3_31 rfl dX3_fieldError_5 (fun x_44 => ?_)
  refine S_aload_n (pc := 8) dX3_fieldError_8 rfl ?_
  refine S_gI (pc := 9) fl_X3_67 rfl dX3_fieldError_9 (fun x_45 => ?_)
  refine S_aload_n (pc := 12) dX3_fieldError_12 rfl ?_
  refine S_gP (pc := 13) fl_X3_19 rfl dX3_fieldError_13 (fun a_46 => ?_)
  refine S_gI (pc := 16) fl_X3_70 rfl dX3_fieldError_16 (fun x_47 => ?_)
  refine Y_Vi (pc := 19) (st := []) (kc' := 0) (ks' := 0) (ktX2_fieldFor a_43 x_44 x_45 x_47) mw_X2_fieldFor mv_X2_fieldFor w636 (RO.mk rfl rfl rfl rfl) rfl rfl rfl dX3_fieldError_19 ⟨rfl, rfl⟩ (fun x_48 => ?_)
  refine Z_istore_n (pc := 22) (lv' := [some (.ref r0), some (.ref r1), some (.int x_48), none]) dX3_fieldError_22 rfl rfl rfl ?_
  refine S_iload_n (pc := 23) dX3_fieldError_23 rfl ?_
  refine S_bipush (pc := 24) (v := (-2 : Int32)) dX3_fieldError_24 kB_m2 ?_
  refine S_icmpne (pc := 26) (tgt := 31) dX3_fieldError_26 (by decide) ?_ ?_
  · refine S_aload_n (pc := 31) dX3_fieldError_31 rfl ?_
    refine S_gP (pc := 32) fl_X3_15 rfl dX3_fieldError_32 (fun a_49 => ?_)
    refine S_iload_n (pc := 35) dX3_fieldError_35 rfl ?_
    refine S_aload_n (pc := 36) dX3_fieldError_36 rfl ?_
    refine Y_Vi (pc := 37) (st := []) (kc' := 0) (ks' := 0) (ktX2_isMemberOpen a_49 x_48 r1) mw_X2_isMemberOpen mv_X2_isMemberOpen w637 (RO.mk rfl rfl rfl rfl) rfl rfl rfl dX3_fieldError_37 ⟨rfl, rfl⟩ (fun x_50 => ?_)
    refine S_ifne (pc := 40) (tgt := 45) dX3_fieldError_40 (by decide) ?_ ?_
    · refine S_aload_n (pc := 45) dX3_fieldError_45 rfl ?_
      refine S_gP (pc := 46) fl_X3_15 rfl dX3_fieldError_46 (fun a_51 => ?_)
      refine S_gP (pc := 49) fl_X3_81 rfl dX3_fieldError_49 (fun a_52 => ?_)
      refine S_gP (pc := 52) fl_X3_85 rfl dX3_fieldError_52 (fun a_53 => ?_)
      refine S_iload_n (pc := 55) dX3_fieldError_55 rfl ?_
      refine S_ldI (pc := 56) dX3_fieldError_56 (fun x_54 => ?_)
      refine Z_istore_n (pc := 57) (lv' := [some (.ref r0), some (.ref r1), some (.int x_48), some (.int x_54)]) dX3_fieldError_57 rfl rfl rfl ?_
      refine S_iload_n (pc := 58) dX3_fieldError_58 rfl ?_
      refine S_iconst (pc := 59) (v := (nI 1)) dX3_fieldError_59 kI_1 ?_
      refine S_iand (pc := 60) dX3_fieldError_60 ?_
      refine S_aload_n (pc := 61) dX3_fieldError_61 rfl ?_
      refine S_gP (pc := 62) fl_X3_19 rfl dX3_fieldError_62 (fun a_55 => ?_)
      refine S_gI (pc := 65) fl_X3_91 rfl dX3_fieldError_65 (fun x_56 => ?_)
      refine S_icmpeq (pc := 68) (tgt := 73) dX3_fieldError_68 (by decide) ?_ ?_
      · refine S_aload_n (pc := 73) dX3_fieldError_73 rfl ?_
        refine S_gI (pc := 74) fl_X3_47 rfl dX3_fieldError_74 (fun x_57 => ?_)
        refine S_iconst (pc := 77) (v := (nI 1)) dX3_fieldError_77 kI_1 ?_
        refine S_icmpne (pc := 78) (tgt := 89) dX3_fieldError_78 (by decide) ?_ ?_
        · exact (S_lv (lv0 := [some (.ref r0), none, some (.int x_48), none]) (And.intro rfl (And.intro rfl trivial)) (sX3_fieldError_89 r0 x_48))
        · refine S_iload_n (pc := 81) dX3_fieldError_81 rfl ?_
          refine S_iconst (pc := 82) (v := (nI 2)) dX3_fieldError_82 kI_2 ?_
          refine S_iand (pc := 83) dX3_fieldError_83 ?_
          refine S_ifeq (pc := 84) (tgt := 89) dX3_fieldError_84 (by decide) ?_ ?_
          · exact (S_lv (lv0 := [some (.ref r0), none, some (.int x_48), none]) (And.intro rfl (And.intro rfl trivial)) (sX3_fieldError_89 r0 x_48))
          · refine S_iconst (pc := 87) (v := (nI 2)) dX3_fieldError_87 kI_2 ?_
            exact S_iret (pc := 88) ⟨rfl, rfl⟩ rfl rfl dX3_fieldError_88
      · refine S_iconst (pc := 71) (v := (nI 5)) dX3_fieldError_71 kI_5 ?_
        exact S_iret (pc := 72) ⟨rfl, rfl⟩ rfl rfl dX3_fieldError_72
    · refine S_iconst (pc := 43) (v := (nI 2)) dX3_fieldError_43 kI_2 ?_
      exact S_iret (pc := 44) ⟨rfl, rfl⟩ rfl rfl dX3_fieldError_44
  · refine S_iconst (pc := 29) (v := (nI 3)) dX3_fieldError_29 kI_3 ?_
    exact S_iret (pc := 30) ⟨rfl, rfl⟩ rfl rfl dX3_fieldError_30
theorem ktX3_fieldError (r0 : Nat) (r1 : Nat) : Ct mX3_fieldError rI [.ref r0, .ref r1] (fX3_fieldError r0 r1) := Ct.of (z := 2) pn_X3 rfl rfl rfl (sX3_fieldError r0 r1)
def mX3_extendingError : MI := (yX3_extendingError, cX3_extendingError, 2, (some .int), { frames := 3, cells := 0, slots := 0, locals := 83 }, [])
theorem mw_X3_extendingError : MW mX3_extendingError 1 := ⟨w659, w9, ⟨by decide, by decide⟩, by decide +kernel⟩
theorem mv_X3_extendingError : MV mX3_extendingError 3 := ⟨_, rfl, w658, wp20⟩
def fX3_extendingError  (r0 : Nat) (v1 : Int32) : AH → Option (Int32 × AH) := fun h =>
  (gP 3 r0 0 h).bind fun a_13 =>
  cv 2 a_13 (fX2_isInterface a_13 v1) h fun x_14 h =>
  if x_14 = 0 then (
    (gP 3 r0 0 h).bind fun a_15 =>
    cv 2 a_15 (fX2_isFinal a_15 v1) h fun x_16 h =>
    if x_16 = 0 then (
      (gP 3 r0 0 h).bind fun a_17 =>
      (gP 3 r0 0 h).bind fun a_18 =>
      (gP 2 a_18 9 h).bind fun a_19 =>
      (ldI a_19 v1 h).bind fun x_20 =>
      (gP 3 r0 0 h).bind fun a_21 =>
      (gP 2 a_21 8 h).bind fun a_22 =>
      (ldI a_22 v1 h).bind fun x_23 =>
      cv 2 a_17 (fX2_isIncomplete a_17 x_20 x_23) h fun x_24 h =>
      if x_24 = 0 then (
        some ((nI 0), h))
      else
      some ((nI 6), h))
    else
    some ((nI 5), h))
  else
  some ((nI 5), h)
theorem sX3_extendingError  (r0 : Nat) (v1 : Int32) : Sm mX3_extendingError rI 0 0 0 [some (.ref r0), some (.int v1)] [] (fX3_extendingError r0 v1) := by
  unfold fX3_extendingError
  refine S_aload_n (pc := 0) dX3_extendingError_0 rfl ?_
  refine S_gP (pc := 1) fl_X3_15 rfl dX3_extendingError_1 (fun a_13 => ?_)
  refine S_iload_n (pc := 4) dX3_extendingError_4 rfl ?_
  refine Y_Vi (pc := 5) (st := []) (kc' := 0) (ks' := 0) (ktX2_isInterface a_13 v1) mw_X2_isInterface mv_X2_isInterface w642 (RO.mk rfl rfl rfl rfl) rfl rfl rfl dX3_extendingError_5 ⟨rfl, rfl⟩ (fun x_14 => ?_)
  refine S_ifne (pc := 8) (tgt := 22) dX3_extendingError_8 (by decide) ?_ ?_
  · refine S_iconst (pc := 22) (v := (nI 5)) dX3_extendingError_22 kI_5 ?_
    exact S_iret (pc := 23) ⟨rfl, rfl⟩ rfl rfl dX3_extendingError_23
  · refine S_aload_n (pc := 11) dX3_extendingError_11 rfl ?_
    refine S_gP (pc := 12) fl_X3_15 rfl dX3_extendingError_12 (fun a_15 => ?_)
    refine S_iload_n (pc := 15) dX3_extendingError_15 rfl ?_
    refine Y_Vi (pc := 16) (st := []) (kc' := 0) (ks' := 0) (ktX2_isFinal a_15 v1) mw_X2_isFinal mv_X2_isFinal w660 (RO.mk rfl rfl rfl rfl) rfl rfl rfl dX3_extendingError_16 ⟨rfl, rfl⟩ (fun x_16 => ?_)
    refine S_ifeq (pc := 19) (tgt := 24) dX3_extendingError_19 (by decide) ?_ ?_
    · refine S_aload_n (pc := 24) dX3_extendingError_24 rfl ?_
      refine S_gP (pc := 25) fl_X3_15 rfl dX3_extendingError_25 (fun a_17 => ?_)
      refine S_aload_n (pc := 28) dX3_extendingError_28 rfl ?_
      refine S_gP (pc := 29) fl_X3_15 rfl dX3_extendingError_29 (fun a_18 => ?_)
      refine S_gP (pc := 32) fl_X3_122 rfl dX3_extendingError_32 (fun a_19 => ?_)
      refine S_iload_n (pc := 35) dX3_extendingError_35 rfl ?_
      refine S_ldI (pc := 36) dX3_extendingError_36 (fun x_20 => ?_)
      refine S_aload_n (pc := 37) dX3_extendingError_37 rfl ?_
      refine S_gP (pc := 38) fl_X3_15 rfl dX3_extendingError_38 (fun a_21 => ?_)
      refine S_gP (pc := 41) fl_X3_125 rfl dX3_extendingError_41 (fun a_22 => ?_)
      refine S_iload_n (pc := 44) dX3_extendingError_44 rfl ?_
      refine S_ldI (pc := 45) dX3_extendingError_45 (fun x_23 => ?_)
      refine Y_Vi (pc := 46) (st := []) (kc' := 0) (ks' := 0) (ktX2_isIncomplete a_17 x_20 x_23) mw_X2_isIncomplete mv_X2_isIncomplete w661 (RO.mk rfl rfl rfl rfl) rfl rfl rfl dX3_extendingError_46 ⟨rfl, rfl⟩ (fun x_24 => ?_)
      refine S_ifeq (pc := 49) (tgt := 57) dX3_extendingError_49 (by decide) ?_ ?_
      · refine S_iconst (pc := 57) (v := (nI 0)) dX3_extendingError_57 kI_0 ?_
        exact S_iret (pc := 58) ⟨rfl, rfl⟩ rfl rfl dX3_extendingError_58
      · refine S_bipush (pc := 52) (v := (nI 6)) dX3_extendingError_52 kB_6 ?_
        refine S_goto (pc := 54) (tgt := 58) dX3_extendingError_54 (by decide) ?_
        exact S_iret (pc := 58) ⟨rfl, rfl⟩ rfl rfl dX3_extendingError_58
    · refine S_iconst (pc := 22) (v := (nI 5)) dX3_extendingError_22 kI_5 ?_
      exact S_iret (pc := 23) ⟨rfl, rfl⟩ rfl rfl dX3_extendingError_23
theorem ktX3_extendingError (r0 : Nat) (v1 : Int32) : Ct mX3_extendingError rI [.ref r0, .int v1] (fX3_extendingError r0 v1) := Ct.of (z := 0) pn_X3 rfl rfl rfl (sX3_extendingError r0 v1)
def mX3_implementingError : MI := (yX3_implementingError, cX3_implementingError, 3, (some .int), { frames := 3, cells := 0, slots := 0, locals := 83 }, [])
theorem mw_X3_implementingError : MW mX3_implementingError 1 := ⟨w665, w9, ⟨by decide, by decide⟩, by decide +kernel⟩
theorem mv_X3_implementingError : MV mX3_implementingError 3 := ⟨_, rfl, w664, wp21⟩
def fX3_implementingError  (r0 : Nat) (r1 : Nat) : AH → Option (Int32 × AH) := fun h =>
  (gP 3 r0 0 h).bind fun a_31 =>
  (gI 0 r1 1 h).bind fun x_32 =>
  cv 2 a_31 (fX2_isInterface a_31 x_32) h fun x_33 h =>
  if x_33 = 0 then (
    some ((nI 5), h))
  else
  (gP 3 r0 0 h).bind fun a_34 =>
  (gI 0 r1 4 h).bind fun x_35 =>
  cv 2 a_34 (fX2_isThere a_34 x_35) h fun x_36 h =>
  if x_36 = 0 then (
    some ((nI 1), h))
  else
  (gP 3 r0 0 h).bind fun a_37 =>
  (gI 0 r1 4 h).bind fun x_38 =>
  (gI 0 r1 3 h).bind fun x_39 =>
  cv 2 a_37 (fX2_isClassOpen a_37 x_38 x_39) h fun x_40 h =>
  if x_40 = 0 then (
    some ((nI 2), h))
  else
  (gP 3 r0 0 h).bind fun a_41 =>
  (gI 0 r1 4 h).bind fun x_42 =>
  cv 2 a_41 (fX2_isInterface a_41 x_42) h fun x_43 h =>
  if x_43 = 0 then (
    (gP 3 r0 0 h).bind fun a_44 =>
    (gI 0 r1 4 h).bind fun x_45 =>
    cv 2 a_44 (fX2_isFinal a_44 x_45) h fun x_46 h =>
    if x_46 = 0 then (
      (gP 3 r0 0 h).bind fun a_47 =>
      (gP 2 a_47 8 h).bind fun a_48 =>
      (gI 0 r1 4 h).bind fun x_49 =>
      (ldI a_48 x_49 h).bind fun x_50 =>
      (gP 3 r0 0 h).bind fun a_51 =>
      (gP 2 a_51 8 h).bind fun a_52 =>
      (gI 0 r1 1 h).bind fun x_53 =>
      (ldI a_52 x_53 h).bind fun x_54 =>
      (gP 3 r0 0 h).bind fun a_55 =>
      (gP 3 r0 0 h).bind fun a_56 =>
      (gP 2 a_56 9 h).bind fun a_57 =>
      (gI 0 r1 4 h).bind fun x_58 =>
      (ldI a_57 x_58 h).bind fun x_59 =>
      cv 2 a_55 (fX2_isIncomplete a_55 x_59 (x_50 ||| x_54)) h fun x_60 h =>
      if x_60 = 0 then (
        some ((nI 0), h))
      else
      some ((nI 6), h))
    else
    some ((nI 5), h))
  else
  some ((nI 5), h)
theorem sX3_implementingError  (r0 : Nat) (r1 : Nat) : Sm mX3_implementingError rI 0 0 0 [some (.ref r0), some (.ref r1), none] [] (fX3_implementingError r0 r1) := by
  unfold fX3_implementingError
  refine S_aload_n (pc := 0) dX3_implementingError_0 rfl ?_
  refine S_gP (pc := 1) fl_X3_15 rfl dX3_implementingError_1 (fun a_31 => ?_)
  refine S_aload_n (pc := 4) dX3_implementingError_4 rfl ?_
  refine S_gI (pc := 5) fl_X3_31 rfl dX3_implementingError_5 (fun x_32 => ?_)
  refine Y_Vi (pc := 8) (st := []) (kc' := 0) (ks' := 0) (ktX2_isInterface a_31 x_32) mw_X2_isInterface mv_X2_isInterface w642 (RO.mk rfl rfl rfl rfl) rfl rfl rfl dX3_implementingError_8 ⟨rfl, rfl⟩ (fun x_33 => ?_)
  refine S_ifne (pc := 11) (tgt := 16) dX3_implementingError_11 (by decide) ?_ ?_
  · refine S_aload_n (pc := 16) dX3_implementingError_16 rfl ?_
    refine S_gP (pc := 17) fl_X3_15 rfl dX3_implementingError_17 (fun a_34 => ?_)
    refine S_aload_n (pc := 20) dX3_implementingError_20 rfl ?_
    refine S_gI (pc := 21) fl_X3_138 rfl dX3_implementingError_21 (fun x_35 => ?_)
    refine Y_Vi (pc := 24) (st := []) (kc' := 0) (ks' := 0) (ktX2_isThere a_34 x_35) mw_X2_isThere mv_X2_isThere w630 (RO.mk rfl rfl rfl rfl) rfl rfl rfl dX3_implementingError_24 ⟨rfl, rfl⟩ (fun x_36 => ?_)
    refine S_ifne (pc := 27) (tgt := 32) dX3_implementingError_27 (by decide) ?_ ?_
    · refine S_aload_n (pc := 32) dX3_implementingError_32 rfl ?_
      refine S_gP (pc := 33) fl_X3_15 rfl dX3_implementingError_33 (fun a_37 => ?_)
      refine S_aload_n (pc := 36) dX3_implementingError_36 rfl ?_
      refine S_gI (pc := 37) fl_X3_138 rfl dX3_implementingError_37 (fun x_38 => ?_)
      refine S_aload_n (pc := 40) dX3_implementingError_40 rfl ?_
      refine S_gI (pc := 41) fl_X3_40 rfl dX3_implementingError_41 (fun x_39 => ?_)
      refine Y_Vi (pc := 44) (st := []) (kc' := 0) (ks' := 0) (ktX2_isClassOpen a_37 x_38 x_39) mw_X2_isClassOpen mv_X2_isClassOpen w631 (RO.mk rfl rfl rfl rfl) rfl rfl rfl dX3_implementingError_44 ⟨rfl, rfl⟩ (fun x_40 => ?_)
      refine S_ifne (pc := 47) (tgt := 52) dX3_implementingError_47 (by decide) ?_ ?_
      · refine S_aload_n (pc := 52) dX3_implementingError_52 rfl ?_
        refine S_gP (pc := 53) fl_X3_15 rfl dX3_implementingError_53 (fun a_41 => ?_)
        refine S_aload_n (pc := 56) dX3_implementingError_56 rfl ?_
        refine S_gI (pc := 57) fl_X3_138 rfl dX3_implementingError_57 (fun x_42 => ?_)
        refine Y_Vi (pc := 60) (st := []) (kc' := 0) (ks' := 0) (ktX2_isInterface a_41 x_42) mw_X2_isInterface mv_X2_isInterface w642 (RO.mk rfl rfl rfl rfl) rfl rfl rfl dX3_implementingError_60 ⟨rfl, rfl⟩ (fun x_43 => ?_)
        refine S_ifne (pc := 63) (tgt := 80) dX3_implementingError_63 (by decide) ?_ ?_
        · refine S_iconst (pc := 80) (v := (nI 5)) dX3_implementingError_80 kI_5 ?_
          exact S_iret (pc := 81) ⟨rfl, rfl⟩ rfl rfl dX3_implementingError_81
        · refine S_aload_n (pc := 66) dX3_implementingError_66 rfl ?_
          refine S_gP (pc := 67) fl_X3_15 rfl dX3_implementingError_67 (fun a_44 => ?_)
          refine S_aload_n (pc := 70) dX3_implementingError_70 rfl ?_
          refine S_gI (pc := 71) fl_X3_138 rfl dX3_implementingError_71 (fun x_45 => ?_)
          refine Y_Vi (pc := 74) (st := []) (kc' := 0) (ks' := 0) (ktX2_isFinal a_44 x_45) mw_X2_isFinal mv_X2_isFinal w660 (RO.mk rfl rfl rfl rfl) rfl rfl rfl dX3_implementingError_74 ⟨rfl, rfl⟩ (fun x_46 => ?_)
          refine S_ifeq (pc := 77) (tgt := 82) dX3_implementingError_77 (by decide) ?_ ?_
          · refine S_aload_n (pc := 82) dX3_implementingError_82 rfl ?_
            refine S_gP (pc := 83) fl_X3_15 rfl dX3_implementingError_83 (fun a_47 => ?_)
            refine S_gP (pc := 86) fl_X3_125 rfl dX3_implementingError_86 (fun a_48 => ?_)
            refine S_aload_n (pc := 89) dX3_implementingError_89 rfl ?_
            refine S_gI (pc := 90) fl_X3_138 rfl dX3_implementingError_90 (fun x_49 => ?_)
            refine S_ldI (pc := 93) dX3_implementingError_93 (fun x_50 => ?_)
            refine S_aload_n (pc := 94) dX3_implementingError_94 rfl ?_
            refine S_gP (pc := 95) fl_X3_15 rfl dX3_implementingError_95 (fun a_51 => ?_)
            refine S_gP (pc := 98) fl_X3_125 rfl dX3_implementingError_98 (fun a_52 => ?_)
            refine S_aload_n (pc := 101) dX3_implementingError_101 rfl ?_
            refine S_gI (pc := 102) fl_X3_31 rfl dX3_implementingError_102 (fun x_53 => ?_)
            refine S_ldI (pc := 105) dX3_implementingError_105 (fun x_54 => ?_)
            refine S_ior (pc := 106) dX3_implementingError_106 ?_
            refine Z_istore_n (pc := 107) (lv' := [some (.ref r0), some (.ref r1), some (.int (x_50 ||| x_54))]) dX3_implementingError_107 rfl rfl rfl ?_
            refine S_aload_n (pc := 108) dX3_implementingError_108 rfl ?_
            refine S_gP (pc := 109) fl_X3_15 rfl dX3_implementingError_109 (fun a_55 => ?_)
            refine S_aload_n (pc := 112) dX3_implementingError_112 rfl ?_
            refine S_gP (pc := 113) fl_X3_15 rfl dX3_implementingError_113 (fun a_56 => ?_)
            refine S_gP (pc := 116) fl_X3_122 rfl dX3_implementingError_116 (fun a_57 => ?_)
            refine S_aload_n (pc := 119) dX3_implementingError_119 rfl ?_
            refine S_gI (pc := 120) fl_X3_138 rfl dX3_implementingError_120 (fun x_58 => ?_)
            refine S_ldI (pc := 123) dX3_implementingError_123 (fun x_59 => ?_)
            refine S_iload_n (pc := 124) dX3_implementingError_124 rfl ?_
            refine Y_Vi (pc := 125) (st := []) (kc' := 0) (ks' := 0) (ktX2_isIncomplete a_55 x_59 (x_50 ||| x_54)) mw_X2_isIncomplete mv_X2_isIncomplete w661 (RO.mk rfl rfl rfl rfl) rfl rfl rfl dX3_implementingError_125 ⟨rfl, rfl⟩ (fun x_60 => ?_)
            refine S_ifeq (pc := 128) (tgt := 136) dX3_implementingError_128 (by decide) ?_ ?_
            · refine S_iconst (pc := 136) (v := (nI 0)) dX3_implementingError_136 kI_0 ?_
              exact S_iret (pc := 137) ⟨rfl, rfl⟩ rfl rfl dX3_implementingError_137
            · refine S_bipush (pc := 131) (v := (nI 6)) dX3_implementingError_131 kB_6 ?_
              refine S_goto (pc := 133) (tgt := 137) dX3_implementingError_133 (by decide) ?_
              exact S_iret (pc := 137) ⟨rfl, rfl⟩ rfl rfl dX3_implementingError_137
          · refine S_iconst (pc := 80) (v := (nI 5)) dX3_implementingError_80 kI_5 ?_
            exact S_iret (pc := 81) ⟨rfl, rfl⟩ rfl rfl dX3_implementingError_81
      · refine S_iconst (pc := 50) (v := (nI 2)) dX3_implementingError_50 kI_2 ?_
        exact S_iret (pc := 51) ⟨rfl, rfl⟩ rfl rfl dX3_implementingError_51
    · refine S_iconst (pc := 30) (v := (nI 1)) dX3_implementingError_30 kI_1 ?_
      exact S_iret (pc := 31) ⟨rfl, rfl⟩ rfl rfl dX3_implementingError_31
  · refine S_iconst (pc := 14) (v := (nI 5)) dX3_implementingError_14 kI_5 ?_
    exact S_iret (pc := 15) ⟨rfl, rfl⟩ rfl rfl dX3_implementingError_15
theorem ktX3_implementingError (r0 : Nat) (r1 : Nat) : Ct mX3_implementingError rI [.ref r0, .ref r1] (fX3_implementingError r0 r1) := Ct.of (z := 1) pn_X3 rfl rfl rfl (sX3_implementingError r0 r1)
def mX3_errorOf : MI := (yX3_errorOf, cX3_errorOf, 2, (some .int), { frames := 4, cells := 0, slots := 0, locals := 108 }, [])
theorem mw_X3_errorOf : MW mX3_errorOf 1 := ⟨w629, w9, ⟨by decide, by decide⟩, by decide +kernel⟩
theorem mv_X3_errorOf : MV mX3_errorOf 3 := ⟨_, rfl, w627, w628⟩
def fX3_errorOf  (r0 : Nat) (r1 : Nat) : AH → Option (Int32 × AH) := fun h =>
  (pI 3 r0 1 (-2 : Int32) h).bind fun h =>
  (gP 0 r1 8 h).bind fun a_20 =>
  (gI 7 a_20 0 h).bind fun x_21 =>
  if x_21 = 0 then (
    (gP 3 r0 0 h).bind fun a_22 =>
    (gI 0 r1 1 h).bind fun x_23 =>
    cv 2 a_22 (fX2_isThere a_22 x_23) h fun x_24 h =>
    if x_24 = 0 then (
      some ((nI 1), h))
    else
    (gP 3 r0 0 h).bind fun a_25 =>
    (gI 0 r1 1 h).bind fun x_26 =>
    (gI 0 r1 3 h).bind fun x_27 =>
    cv 2 a_25 (fX2_isClassOpen a_25 x_26 x_27) h fun x_28 h =>
    if x_28 = 0 then (
      some ((nI 2), h))
    else
    (gI 0 r1 0 h).bind fun x_29 =>
    if x_29 = (nI 0) then (
      cv 3 r0 (fX3_fieldError r0 r1) h fun x_30 h =>
      some (x_30, h))
    else
    if x_29 = (nI 1) then (
      cv 3 r0 (fX3_fieldError r0 r1) h fun x_31 h =>
      some (x_31, h))
    else
    if x_29 = (nI 2) then (
      cv 3 r0 (fX3_callError r0 r1) h fun x_32 h =>
      some (x_32, h))
    else
    if x_29 = (nI 3) then (
      (gP 3 r0 0 h).bind fun a_33 =>
      (gI 0 r1 1 h).bind fun x_34 =>
      cv 2 a_33 (fX2_isAbstract a_33 x_34) h fun x_35 h =>
      if x_35 = 0 then (
        some ((nI 0), h))
      else
      some ((nI 7), h))
    else
    if x_29 = (nI 4) then (
      (gI 0 r1 1 h).bind fun x_36 =>
      cv 3 r0 (fX3_extendingError r0 x_36) h fun x_37 h =>
      some (x_37, h))
    else
    cv 3 r0 (fX3_implementingError r0 r1) h fun x_38 h =>
    some (x_38, h))
  else
  some ((nI 0), h)
theorem sX3_errorOf  (r0 : Nat) (r1 : Nat) : Sm mX3_errorOf rI 0 0 0 [some (.ref r0), some (.ref r1)] [] (fX3_errorOf r0 r1) := by
  unfold fX3_errorOf
  refine S_aload_n (pc := 0) dX3_errorOf_0 rfl ?_
  refine S_bipush (pc := 1) (v := (-2 : Int32)) dX3_errorOf_1 kB_m2 ?_
  refine S_pI (pc := 3) fl_X3_9 rfl rfl dX3_errorOf_3 ?_
  refine S_aload_n (pc := 6) dX3_errorOf_6 rfl ?_
  refine S_gP (pc := 7) fl_X3_19 rfl dX3_errorOf_7 (fun a_20 => ?_)
  refine S_gI (pc := 10) fl_X3_25 rfl dX3_errorOf_10 (fun x_21 => ?_)
  refine S_ifeq (pc := 13) (tgt := 18) dX3_errorOf_13 (by decide) ?_ ?_
  · refine S_aload_n (pc := 18) dX3_errorOf_18 rfl ?_
    refine S_gP (pc := 19) fl_X3_15 rfl dX3_errorOf_19 (fun a_22 => ?_)
    refine S_aload_n (pc := 22) dX3_errorOf_22 rfl ?_
    refine S_gI (pc := 23) fl_X3_31 rfl dX3_errorOf_23 (fun x_23 => ?_)
    refine Y_Vi (pc := 26) (st := []) (kc' := 0) (ks' := 0) (ktX2_isThere a_22 x_23) mw_X2_isThere mv_X2_isThere w630 (RO.mk rfl rfl rfl rfl) rfl rfl rfl dX3_errorOf_26 ⟨rfl, rfl⟩ (fun x_24 => ?_)
    refine S_ifne (pc := 29) (tgt := 34) dX3_errorOf_29 (by decide) ?_ ?_
    · refine S_aload_n (pc := 34) dX3_errorOf_34 rfl ?_
      refine S_gP (pc := 35) fl_X3_15 rfl dX3_errorOf_35 (fun a_25 => ?_)
      refine S_aload_n (pc := 38) dX3_errorOf_38 rfl ?_
      refine S_gI (pc := 39) fl_X3_31 rfl dX3_errorOf_39 (fun x_26 => ?_)
      refine S_aload_n (pc := 42) dX3_errorOf_42 rfl ?_
      refine S_gI (pc := 43) fl_X3_40 rfl dX3_errorOf_43 (fun x_27 => ?_)
      refine Y_Vi (pc := 46) (st := []) (kc' := 0) (ks' := 0) (ktX2_isClassOpen a_25 x_26 x_27) mw_X2_isClassOpen mv_X2_isClassOpen w631 (RO.mk rfl rfl rfl rfl) rfl rfl rfl dX3_errorOf_46 ⟨rfl, rfl⟩ (fun x_28 => ?_)
      refine S_ifne (pc := 49) (tgt := 54) dX3_errorOf_49 (by decide) ?_ ?_
      · refine S_aload_n (pc := 54) dX3_errorOf_54 rfl ?_
        refine S_gI (pc := 55) fl_X3_47 rfl dX3_errorOf_55 (fun x_29 => ?_)
        refine S_case (x := x_29) (v := (nI 0)) (fun n0 => ?_) (fun n0 => ?_)
        · refine S_tsI (pc := 58) (tgt := 92) n0 dX3_errorOf_58 (by decide) rfl (by decide) ?_
          refine S_aload_n (pc := 92) dX3_errorOf_92 rfl ?_
          refine S_aload_n (pc := 93) dX3_errorOf_93 rfl ?_
          refine Y_Vi (pc := 94) (st := []) (kc' := 0) (ks' := 0) (ktX3_fieldError r0 r1) mw_X3_fieldError mv_X3_fieldError w632 (RO.mk rfl rfl rfl rfl) rfl rfl rfl dX3_errorOf_94 ⟨rfl, rfl⟩ (fun x_30 => ?_)
          exact S_iret (pc := 97) ⟨rfl, rfl⟩ rfl rfl dX3_errorOf_97
        refine S_case (x := x_29) (v := (nI 1)) (fun n1 => ?_) (fun n1 => ?_)
        · refine S_tsI (pc := 58) (tgt := 92) n1 dX3_errorOf_58 (by decide) rfl (by decide) ?_
          refine S_aload_n (pc := 92) dX3_errorOf_92 rfl ?_
          refine S_aload_n (pc := 93) dX3_errorOf_93 rfl ?_
          refine Y_Vi (pc := 94) (st := []) (kc' := 0) (ks' := 0) (ktX3_fieldError r0 r1) mw_X3_fieldError mv_X3_fieldError w632 (RO.mk rfl rfl rfl rfl) rfl rfl rfl dX3_errorOf_94 ⟨rfl, rfl⟩ (fun x_31 => ?_)
          exact S_iret (pc := 97) ⟨rfl, rfl⟩ rfl rfl dX3_errorOf_97
        refine S_case (x := x_29) (v := (nI 2)) (fun n2 => ?_) (fun n2 => ?_)
        · refine S_tsI (pc := 58) (tgt := 98) n2 dX3_errorOf_58 (by decide) rfl (by decide) ?_
          refine S_aload_n (pc := 98) dX3_errorOf_98 rfl ?_
          refine S_aload_n (pc := 99) dX3_errorOf_99 rfl ?_
          refine Y_Vi (pc := 100) (st := []) (kc' := 0) (ks' := 0) (ktX3_callError r0 r1) mw_X3_callError mv_X3_callError w638 (RO.mk rfl rfl rfl rfl) rfl rfl rfl dX3_errorOf_100 ⟨rfl, rfl⟩ (fun x_32 => ?_)
          exact S_iret (pc := 103) ⟨rfl, rfl⟩ rfl rfl dX3_errorOf_103
        refine S_case (x := x_29) (v := (nI 3)) (fun n3 => ?_) (fun n3 => ?_)
        · refine S_tsI (pc := 58) (tgt := 104) n3 dX3_errorOf_58 (by decide) rfl (by decide) ?_
          refine S_aload_n (pc := 104) dX3_errorOf_104 rfl ?_
          refine S_gP (pc := 105) fl_X3_15 rfl dX3_errorOf_105 (fun a_33 => ?_)
          refine S_aload_n (pc := 108) dX3_errorOf_108 rfl ?_
          refine S_gI (pc := 109) fl_X3_31 rfl dX3_errorOf_109 (fun x_34 => ?_)
          refine Y_Vi (pc := 112) (st := []) (kc' := 0) (ks' := 0) (ktX2_isAbstract a_33 x_34) mw_X2_isAbstract mv_X2_isAbstract w653 (RO.mk rfl rfl rfl rfl) rfl rfl rfl dX3_errorOf_112 ⟨rfl, rfl⟩ (fun x_35 => ?_)
          refine S_ifeq (pc := 115) (tgt := 123) dX3_errorOf_115 (by decide) ?_ ?_
          · refine S_iconst (pc := 123) (v := (nI 0)) dX3_errorOf_123 kI_0 ?_
            exact S_iret (pc := 124) ⟨rfl, rfl⟩ rfl rfl dX3_errorOf_124
          · refine S_bipush (pc := 118) (v := (nI 7)) dX3_errorOf_118 kB_7 ?_
            refine S_goto (pc := 120) (tgt := 124) dX3_errorOf_120 (by decide) ?_
            exact S_iret (pc := 124) ⟨rfl, rfl⟩ rfl rfl dX3_errorOf_124
        refine S_case (x := x_29) (v := (nI 4)) (fun n4 => ?_) (fun n4 => ?_)
        · refine S_tsI (pc := 58) (tgt := 125) n4 dX3_errorOf_58 (by decide) rfl (by decide) ?_
          refine S_aload_n (pc := 125) dX3_errorOf_125 rfl ?_
          refine S_aload_n (pc := 126) dX3_errorOf_126 rfl ?_
          refine S_gI (pc := 127) fl_X3_31 rfl dX3_errorOf_127 (fun x_36 => ?_)
          refine Y_Vi (pc := 130) (st := []) (kc' := 0) (ks' := 0) (ktX3_extendingError r0 x_36) mw_X3_extendingError mv_X3_extendingError w656 (RO.mk rfl rfl rfl rfl) rfl rfl rfl dX3_errorOf_130 ⟨rfl, rfl⟩ (fun x_37 => ?_)
          exact S_iret (pc := 133) ⟨rfl, rfl⟩ rfl rfl dX3_errorOf_133
        refine S_tsD (pc := 58) (tgt := 134) (by have n0 := lv_neT (a := 0) n0 rfl; have n1 := lv_neT (a := 1) n1 rfl; have n2 := lv_neT (a := 2) n2 rfl; have n3 := lv_neT (a := 3) n3 rfl; have n4 := lv_neT (a := 4) n4 rfl; omega) dX3_errorOf_58 (by decide) ?_
        refine S_aload_n (pc := 134) dX3_errorOf_134 rfl ?_
        refine S_aload_n (pc := 135) dX3_errorOf_135 rfl ?_
        refine Y_Vi (pc := 136) (st := []) (kc' := 0) (ks' := 0) (ktX3_implementingError r0 r1) mw_X3_implementingError mv_X3_implementingError w662 (RO.mk rfl rfl rfl rfl) rfl rfl rfl dX3_errorOf_136 ⟨rfl, rfl⟩ (fun x_38 => ?_)
        exact S_iret (pc := 139) ⟨rfl, rfl⟩ rfl rfl dX3_errorOf_139
      · refine S_iconst (pc := 52) (v := (nI 2)) dX3_errorOf_52 kI_2 ?_
        exact S_iret (pc := 53) ⟨rfl, rfl⟩ rfl rfl dX3_errorOf_53
    · refine S_iconst (pc := 32) (v := (nI 1)) dX3_errorOf_32 kI_1 ?_
      exact S_iret (pc := 33) ⟨rfl, rfl⟩ rfl rfl dX3_errorOf_33
  · refine S_iconst (pc := 16) (v := (nI 0)) dX3_errorOf_16 kI_0 ?_
    exact S_iret (pc := 17) ⟨rfl, rfl⟩ rfl rfl dX3_errorOf_17
theorem ktX3_errorOf (r0 : Nat) (r1 : Nat) : Ct mX3_errorOf rI [.ref r0, .ref r1] (fX3_errorOf r0 r1) := Ct.of (z := 0) pn_X3 rfl rfl rfl (sX3_errorOf r0 r1)
def mX3_init : MI := (yX3_init, cX3_init, 2, none, { frames := 1, cells := 0, slots := 0, locals := 20 }, [])
theorem mw_X3_init : MW mX3_init 1 := ⟨w345, w9, ⟨by decide, by decide⟩, by decide +kernel⟩
def fX3_init  (r0 : Nat) (r1 : Nat) : AH → Option (Unit × AH) := fun h =>
  (pI 3 r0 1 (-2 : Int32) h).bind fun h =>
  (pP 3 r0 0 r1 h).bind fun h =>
  some ((), h)
theorem sX3_init  (r0 : Nat) (r1 : Nat) : Sm mX3_init rV 0 0 0 [some (.ref r0), some (.ref r1)] [] (fX3_init r0 r1) := by
  unfold fX3_init
  refine S_aload_n (pc := 0) dX3_init_0 rfl ?_
  refine S_obj (pc := 1) w346 w25 w26 ⟨rfl, rfl⟩ dX3_init_1 ?_
  refine S_aload_n (pc := 4) dX3_init_4 rfl ?_
  refine S_bipush (pc := 5) (v := (-2 : Int32)) dX3_init_5 kB_m2 ?_
  refine S_pI (pc := 7) fl_X3_9 rfl rfl dX3_init_7 ?_
  refine S_aload_n (pc := 10) dX3_init_10 rfl ?_
  refine S_aload_n (pc := 11) dX3_init_11 rfl ?_
  refine S_pF (pc := 12) fl_X3_15 rfl rfl rfl (fun r hr => by cases hr; rfl) dX3_init_12 ?_
  exact S_vret (pc := 15) ⟨rfl, rfl⟩ rfl rfl dX3_init_15
theorem ktX3_init (r0 : Nat) (r1 : Nat) : Ct mX3_init rV [.ref r0, .ref r1] (fX3_init r0 r1) := Ct.of (z := 0) pn_X3 rfl rfl rfl (sX3_init r0 r1)
