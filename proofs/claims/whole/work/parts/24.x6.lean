def mX6_append : MI := (yX6_append, cX6_append, 2, none, { frames := 2, cells := 0, slots := 0, locals := 42 }, [])
theorem mw_X6_append : MW mX6_append 1 := ⟨w541, w2, ⟨by decide, by decide⟩, by decide +kernel⟩
theorem mv_X6_append : MV mX6_append 6 := ⟨_, rfl, w539, w540⟩
def fX6_append  (r0 : Nat) (r1 : Nat) : AH → Option (Unit × AH) := fun h =>
  (gP 6 r0 1 h).bind fun a_5 =>
  (gI 6 r0 2 h).bind fun x_6 =>
  (ldP 0 a_5 x_6 h).bind fun a_7 =>
  cv 0 a_7 (fX0_copyFrom a_7 r1) h fun _ h =>
  (gI 6 r0 2 h).bind fun x_8 =>
  (pI 6 r0 2 (x_8 + (nI 1)) h).bind fun h =>
  some ((), h)
theorem sX6_append  (r0 : Nat) (r1 : Nat) : Sm mX6_append rV 0 0 0 [some (.ref r0), some (.ref r1)] [] (fX6_append r0 r1) := by
  unfold fX6_append
  refine S_aload_n (pc := 0) dX6_append_0 rfl ?_
  refine S_gP (pc := 1) fl_X6_19 rfl dX6_append_1 (fun a_5 => ?_)
  refine S_aload_n (pc := 4) dX6_append_4 rfl ?_
  refine S_gI (pc := 5) fl_X6_23 rfl dX6_append_5 (fun x_6 => ?_)
  refine S_ldP (pc := 8) (c := 0) (by decide) dX6_append_8 (fun a_7 => ?_)
  refine S_aload_n (pc := 9) dX6_append_9 rfl ?_
  refine Y_Vv (pc := 10) (st := []) (kc' := 0) (ks' := 0) (ktX0_copyFrom a_7 r1) mw_X0_copyFrom mv_X0_copyFrom w542 (RO.mk rfl rfl rfl rfl) rfl rfl rfl dX6_append_10 ⟨rfl, rfl⟩ ?_
  refine S_aload_n (pc := 13) dX6_append_13 rfl ?_
  refine S_dup (pc := 14) rfl dX6_append_14 ?_
  refine S_gI (pc := 15) fl_X6_23 rfl dX6_append_15 (fun x_8 => ?_)
  refine S_iconst (pc := 18) (v := (nI 1)) dX6_append_18 kI_1 ?_
  refine S_iadd (pc := 19) dX6_append_19 ?_
  refine S_pI (pc := 20) fl_X6_23 rfl rfl dX6_append_20 ?_
  exact S_vret (pc := 23) ⟨rfl, rfl⟩ rfl rfl dX6_append_23
theorem ktX6_append (r0 : Nat) (r1 : Nat) : Ct mX6_append rV [.ref r0, .ref r1] (fX6_append r0 r1) := Ct.of (z := 0) pn_X6 rfl rfl rfl (sX6_append r0 r1)
def mX6_copyFrom : MI := (yX6_copyFrom, cX6_copyFrom, 3, none, { frames := 3, cells := 0, slots := 0, locals := 68 }, [])
theorem mw_X6_copyFrom : MW mX6_copyFrom 1 := ⟨w583, w2, ⟨by decide, by decide⟩, by decide +kernel⟩
theorem mv_X6_copyFrom : MV mX6_copyFrom 6 := ⟨_, rfl, w581, w582⟩
def bX6_copyFrom_30  (k30 : Nat → Nat → Int32 → AH → Option (Unit × AH)) (r0 : Nat) (r1 : Nat) (v2 : Int32) : AH → Option (Unit × AH) := fun h =>
  (gI 6 r1 2 h).bind fun x_21 =>
  if x_21 ≤ v2 then (
    (gI 6 r1 2 h).bind fun x_22 =>
    (pI 6 r0 2 x_22 h).bind fun h =>
    some ((), h))
  else
  (gP 6 r0 1 h).bind fun a_23 =>
  (ldP 0 a_23 v2 h).bind fun a_24 =>
  (gP 6 r1 1 h).bind fun a_25 =>
  (ldP 0 a_25 v2 h).bind fun a_26 =>
  cv 0 a_24 (fX0_copyFrom a_24 a_26) h fun _ h =>
  k30 r0 r1 (v2 + (nI 1)) h
def lX6_copyFrom_30  : Nat → Nat → Nat → Int32 → AH → Option (Unit × AH)
  | 0 => fun _ _ _ _ => none
  | n + 1 => bX6_copyFrom_30 (lX6_copyFrom_30 n)
def bX6_copyFrom_2  (k2 : Nat → Nat → Int32 → AH → Option (Unit × AH)) (r0 : Nat) (r1 : Nat) (v2 : Int32) : AH → Option (Unit × AH) := fun h =>
  if (nI 2) ≤ v2 then (
    lX6_copyFrom_30 fuel r0 r1 (nI 0) h)
  else
  (gP 6 r0 0 h).bind fun a_27 =>
  (ldP 2 a_27 v2 h).bind fun a_28 =>
  (gP 6 r1 0 h).bind fun a_29 =>
  (ldP 2 a_29 v2 h).bind fun a_30 =>
  cv 2 a_28 (fX2_copyFrom a_28 a_30) h fun _ h =>
  k2 r0 r1 (v2 + (nI 1)) h
def lX6_copyFrom_2  : Nat → Nat → Nat → Int32 → AH → Option (Unit × AH)
  | 0 => fun _ _ _ _ => none
  | n + 1 => bX6_copyFrom_2 (lX6_copyFrom_2 n)
def fX6_copyFrom  (r0 : Nat) (r1 : Nat) : AH → Option (Unit × AH) := fun h =>
  lX6_copyFrom_2 fuel r0 r1 (nI 0) h
theorem sbX6_copyFrom_30  {k30 : Nat → Nat → Int32 → AH → Option (Unit × AH)} (h30 : ∀ (r0 : Nat) (r1 : Nat) (v2 : Int32), Sm mX6_copyFrom rV 0 0 30 [some (.ref r0), some (.ref r1), some (.int v2)] [] (k30 r0 r1 v2)) (r0 : Nat) (r1 : Nat) (v2 : Int32) : Sm mX6_copyFrom rV 0 0 30 [some (.ref r0), some (.ref r1), some (.int v2)] [] (bX6_copyFrom_30 k30 r0 r1 v2) := by
  unfold bX6_copyFrom_30
  refine S_iload_n (pc := 30) dX6_copyFrom_30 rfl ?_
  refine S_aload_n (pc := 31) dX6_copyFrom_31 rfl ?_
  refine S_gI (pc := 32) fl_X6_23 rfl dX6_copyFrom_32 (fun x_21 => ?_)
  refine S_icmpge (pc := 35) (tgt := 59) dX6_copyFrom_35 (by decide) ?_ ?_
  · refine S_aload_n (pc := 59) dX6_copyFrom_59 rfl ?_
    refine S_aload_n (pc := 60) dX6_copyFrom_60 rfl ?_
    refine S_gI (pc := 61) fl_X6_23 rfl dX6_copyFrom_61 (fun x_22 => ?_)
    refine S_pI (pc := 64) fl_X6_23 rfl rfl dX6_copyFrom_64 ?_
    exact S_vret (pc := 67) ⟨rfl, rfl⟩ rfl rfl dX6_copyFrom_67
  · refine S_aload_n (pc := 38) dX6_copyFrom_38 rfl ?_
    refine S_gP (pc := 39) fl_X6_19 rfl dX6_copyFrom_39 (fun a_23 => ?_)
    refine S_iload_n (pc := 42) dX6_copyFrom_42 rfl ?_
    refine S_ldP (pc := 43) (c := 0) (by decide) dX6_copyFrom_43 (fun a_24 => ?_)
    refine S_aload_n (pc := 44) dX6_copyFrom_44 rfl ?_
    refine S_gP (pc := 45) fl_X6_19 rfl dX6_copyFrom_45 (fun a_25 => ?_)
    refine S_iload_n (pc := 48) dX6_copyFrom_48 rfl ?_
    refine S_ldP (pc := 49) (c := 0) (by decide) dX6_copyFrom_49 (fun a_26 => ?_)
    refine Y_Vv (pc := 50) (st := []) (kc' := 0) (ks' := 0) (ktX0_copyFrom a_24 a_26) mw_X0_copyFrom mv_X0_copyFrom w542 (RO.mk rfl rfl rfl rfl) rfl rfl rfl dX6_copyFrom_50 ⟨rfl, rfl⟩ ?_
    refine Z_iinc (pc := 53) (v := (nI 1)) (lv' := [some (.ref r0), some (.ref r1), some (.int (v2 + (nI 1)))]) dX6_copyFrom_53 rfl kI_1 rfl rfl rfl ?_
    refine S_goto (pc := 56) (tgt := 30) dX6_copyFrom_56 (by decide) ?_
    exact (h30 r0 r1 (v2 + (nI 1)))
theorem sX6_copyFrom_30  : ∀ (n : Nat) (r0 : Nat) (r1 : Nat) (v2 : Int32), Sm mX6_copyFrom rV 0 0 30 [some (.ref r0), some (.ref r1), some (.int v2)] [] (lX6_copyFrom_30 n r0 r1 v2)
  | 0, _, _, _ => S_none
  | n + 1, r0, r1, v2 => sbX6_copyFrom_30 (sX6_copyFrom_30 n) r0 r1 v2
theorem sbX6_copyFrom_2  {k2 : Nat → Nat → Int32 → AH → Option (Unit × AH)} (h2 : ∀ (r0 : Nat) (r1 : Nat) (v2 : Int32), Sm mX6_copyFrom rV 0 0 2 [some (.ref r0), some (.ref r1), some (.int v2)] [] (k2 r0 r1 v2)) (r0 : Nat) (r1 : Nat) (v2 : Int32) : Sm mX6_copyFrom rV 0 0 2 [some (.ref r0), some (.ref r1), some (.int v2)] [] (bX6_copyFrom_2 k2 r0 r1 v2) := by
  unfold bX6_copyFrom_2
  refine S_iload_n (pc := 2) dX6_copyFrom_2 rfl ?_
  refine S_iconst (pc := 3) (v := (nI 2)) dX6_copyFrom_3 kI_2 ?_
  refine S_icmpge (pc := 4) (tgt := 28) dX6_copyFrom_4 (by decide) ?_ ?_
  · refine S_iconst (pc := 28) (v := (nI 0)) dX6_copyFrom_28 kI_0 ?_
    refine Z_istore_n (pc := 29) (lv' := [some (.ref r0), some (.ref r1), some (.int (nI 0))]) dX6_copyFrom_29 rfl rfl rfl ?_
    exact (sX6_copyFrom_30 fuel r0 r1 (nI 0))
  · refine S_aload_n (pc := 7) dX6_copyFrom_7 rfl ?_
    refine S_gP (pc := 8) fl_X6_11 rfl dX6_copyFrom_8 (fun a_27 => ?_)
    refine S_iload_n (pc := 11) dX6_copyFrom_11 rfl ?_
    refine S_ldP (pc := 12) (c := 2) (by decide) dX6_copyFrom_12 (fun a_28 => ?_)
    refine S_aload_n (pc := 13) dX6_copyFrom_13 rfl ?_
    refine S_gP (pc := 14) fl_X6_11 rfl dX6_copyFrom_14 (fun a_29 => ?_)
    refine S_iload_n (pc := 17) dX6_copyFrom_17 rfl ?_
    refine S_ldP (pc := 18) (c := 2) (by decide) dX6_copyFrom_18 (fun a_30 => ?_)
    refine Y_Vv (pc := 19) (st := []) (kc' := 0) (ks' := 0) (ktX2_copyFrom a_28 a_30) mw_X2_copyFrom mv_X2_copyFrom w584 (RO.mk rfl rfl rfl rfl) rfl rfl rfl dX6_copyFrom_19 ⟨rfl, rfl⟩ ?_
    refine Z_iinc (pc := 22) (v := (nI 1)) (lv' := [some (.ref r0), some (.ref r1), some (.int (v2 + (nI 1)))]) dX6_copyFrom_22 rfl kI_1 rfl rfl rfl ?_
    refine S_goto (pc := 25) (tgt := 2) dX6_copyFrom_25 (by decide) ?_
    exact (h2 r0 r1 (v2 + (nI 1)))
theorem sX6_copyFrom_2  : ∀ (n : Nat) (r0 : Nat) (r1 : Nat) (v2 : Int32), Sm mX6_copyFrom rV 0 0 2 [some (.ref r0), some (.ref r1), some (.int v2)] [] (lX6_copyFrom_2 n r0 r1 v2)
  | 0, _, _, _ => S_none
  | n + 1, r0, r1, v2 => sbX6_copyFrom_2 (sX6_copyFrom_2 n) r0 r1 v2
theorem sX6_copyFrom  (r0 : Nat) (r1 : Nat) : Sm mX6_copyFrom rV 0 0 0 [some (.ref r0), some (.ref r1), none] [] (fX6_copyFrom r0 r1) := by
  unfold fX6_copyFrom
  refine S_iconst (pc := 0) (v := (nI 0)) dX6_copyFrom_0 kI_0 ?_
  refine Z_istore_n (pc := 1) (lv' := [some (.ref r0), some (.ref r1), some (.int (nI 0))]) dX6_copyFrom_1 rfl rfl rfl ?_
  exact (sX6_copyFrom_2 fuel r0 r1 (nI 0))
theorem ktX6_copyFrom (r0 : Nat) (r1 : Nat) : Ct mX6_copyFrom rV [.ref r0, .ref r1] (fX6_copyFrom r0 r1) := Ct.of (z := 1) pn_X6 rfl rfl rfl (sX6_copyFrom r0 r1)
def mX6_dropAt : MI := (yX6_dropAt, cX6_dropAt, 3, none, { frames := 2, cells := 0, slots := 0, locals := 42 }, [])
theorem mw_X6_dropAt : MW mX6_dropAt 1 := ⟨w1090, w2, ⟨by decide, by decide⟩, by decide +kernel⟩
theorem mv_X6_dropAt : MV mX6_dropAt 6 := ⟨_, rfl, w1088, w1089⟩
def bX6_dropAt_2  (k2 : Nat → Int32 → AH → Option (Unit × AH)) (r0 : Nat) (v2 : Int32) : AH → Option (Unit × AH) := fun h =>
  (gI 6 r0 2 h).bind fun x_13 =>
  if x_13 ≤ (v2 + (nI 1)) then (
    (gI 6 r0 2 h).bind fun x_14 =>
    (pI 6 r0 2 (x_14 - (nI 1)) h).bind fun h =>
    some ((), h))
  else
  (gP 6 r0 1 h).bind fun a_15 =>
  (ldP 0 a_15 v2 h).bind fun a_16 =>
  (gP 6 r0 1 h).bind fun a_17 =>
  (ldP 0 a_17 (v2 + (nI 1)) h).bind fun a_18 =>
  cv 0 a_16 (fX0_copyFrom a_16 a_18) h fun _ h =>
  k2 r0 (v2 + (nI 1)) h
def lX6_dropAt_2  : Nat → Nat → Int32 → AH → Option (Unit × AH)
  | 0 => fun _ _ _ => none
  | n + 1 => bX6_dropAt_2 (lX6_dropAt_2 n)
def fX6_dropAt  (r0 : Nat) (v1 : Int32) : AH → Option (Unit × AH) := fun h =>
  lX6_dropAt_2 fuel r0 v1 h
theorem sbX6_dropAt_2  {k2 : Nat → Int32 → AH → Option (Unit × AH)} (h2 : ∀ (r0 : Nat) (v2 : Int32), Sm mX6_dropAt rV 0 0 2 [some (.ref r0), none, some (.int v2)] [] (k2 r0 v2)) (r0 : Nat) (v2 : Int32) : Sm mX6_dropAt rV 0 0 2 [some (.ref r0), none, some (.int v2)] [] (bX6_dropAt_2 k2 r0 v2) := by
  unfold bX6_dropAt_2
  refine S_iload_n (pc := 2) dX6_dropAt_2 rfl ?_
  refine S_iconst (pc := 3) (v := (nI 1)) dX6_dropAt_3 kI_1 ?_
  refine S_iadd (pc := 4) dX6_dropAt_4 ?_
  refine S_aload_n (pc := 5) dX6_dropAt_5 rfl ?_
  refine S_gI (pc := 6) fl_X6_23 rfl dX6_dropAt_6 (fun x_13 => ?_)
  refine S_icmpge (pc := 9) (tgt := 35) dX6_dropAt_9 (by decide) ?_ ?_
  · refine S_aload_n (pc := 35) dX6_dropAt_35 rfl ?_
    refine S_dup (pc := 36) rfl dX6_dropAt_36 ?_
    refine S_gI (pc := 37) fl_X6_23 rfl dX6_dropAt_37 (fun x_14 => ?_)
    refine S_iconst (pc := 40) (v := (nI 1)) dX6_dropAt_40 kI_1 ?_
    refine S_isub (pc := 41) dX6_dropAt_41 ?_
    refine S_pI (pc := 42) fl_X6_23 rfl rfl dX6_dropAt_42 ?_
    exact S_vret (pc := 45) ⟨rfl, rfl⟩ rfl rfl dX6_dropAt_45
  · refine S_aload_n (pc := 12) dX6_dropAt_12 rfl ?_
    refine S_gP (pc := 13) fl_X6_19 rfl dX6_dropAt_13 (fun a_15 => ?_)
    refine S_iload_n (pc := 16) dX6_dropAt_16 rfl ?_
    refine S_ldP (pc := 17) (c := 0) (by decide) dX6_dropAt_17 (fun a_16 => ?_)
    refine S_aload_n (pc := 18) dX6_dropAt_18 rfl ?_
    refine S_gP (pc := 19) fl_X6_19 rfl dX6_dropAt_19 (fun a_17 => ?_)
    refine S_iload_n (pc := 22) dX6_dropAt_22 rfl ?_
    refine S_iconst (pc := 23) (v := (nI 1)) dX6_dropAt_23 kI_1 ?_
    refine S_iadd (pc := 24) dX6_dropAt_24 ?_
    refine S_ldP (pc := 25) (c := 0) (by decide) dX6_dropAt_25 (fun a_18 => ?_)
    refine Y_Vv (pc := 26) (st := []) (kc' := 0) (ks' := 0) (ktX0_copyFrom a_16 a_18) mw_X0_copyFrom mv_X0_copyFrom w542 (RO.mk rfl rfl rfl rfl) rfl rfl rfl dX6_dropAt_26 ⟨rfl, rfl⟩ ?_
    refine Z_iinc (pc := 29) (v := (nI 1)) (lv' := [some (.ref r0), none, some (.int (v2 + (nI 1)))]) dX6_dropAt_29 rfl kI_1 rfl rfl rfl ?_
    refine S_goto (pc := 32) (tgt := 2) dX6_dropAt_32 (by decide) ?_
    exact (h2 r0 (v2 + (nI 1)))
theorem sX6_dropAt_2  : ∀ (n : Nat) (r0 : Nat) (v2 : Int32), Sm mX6_dropAt rV 0 0 2 [some (.ref r0), none, some (.int v2)] [] (lX6_dropAt_2 n r0 v2)
  | 0, _, _ => S_none
  | n + 1, r0, v2 => sbX6_dropAt_2 (sX6_dropAt_2 n) r0 v2
theorem sX6_dropAt  (r0 : Nat) (v1 : Int32) : Sm mX6_dropAt rV 0 0 0 [some (.ref r0), some (.int v1), none] [] (fX6_dropAt r0 v1) := by
  unfold fX6_dropAt
  refine S_iload_n (pc := 0) dX6_dropAt_0 rfl ?_
  refine Z_istore_n (pc := 1) (lv' := [some (.ref r0), some (.int v1), some (.int v1)]) dX6_dropAt_1 rfl rfl rfl ?_
  exact (S_lv (lv0 := [some (.ref r0), none, some (.int v1)]) (And.intro rfl (And.intro rfl trivial)) (sX6_dropAt_2 fuel r0 v1))
theorem ktX6_dropAt (r0 : Nat) (v1 : Int32) : Ct mX6_dropAt rV [.ref r0, .int v1] (fX6_dropAt r0 v1) := Ct.of (z := 1) pn_X6 rfl rfl rfl (sX6_dropAt r0 v1)
def mX6_init : MI := (yX6_init, cX6_init, 2, none, { frames := 3, cells := 68, slots := 1709, locals := 60 }, [])
theorem mw_X6_init : MW mX6_init 0 := ⟨w31, w2, ⟨by decide, by decide⟩, by decide +kernel⟩
def bX6_init_54  (k54 : Nat → Int32 → AH → Option (Unit × AH)) (r0 : Nat) (v1 : Int32) : AH → Option (Unit × AH) := fun h =>
  if (nI 12) ≤ v1 then (
    some ((), h))
  else
  (gP 6 r0 1 h).bind fun a_21 =>
  bd (nwO 0 h) fun a_22 h =>
  bd (fX0_init a_22 h) fun _ h =>
  (stP 0 a_21 v1 a_22 h).bind fun h =>
  k54 r0 (v1 + (nI 1)) h
def lX6_init_54  : Nat → Nat → Int32 → AH → Option (Unit × AH)
  | 0 => fun _ _ _ => none
  | n + 1 => bX6_init_54 (lX6_init_54 n)
def bX6_init_28  (k28 : Nat → Int32 → AH → Option (Unit × AH)) (r0 : Nat) (v1 : Int32) : AH → Option (Unit × AH) := fun h =>
  if (nI 2) ≤ v1 then (
    lX6_init_54 13 r0 (nI 0) h)
  else
  (gP 6 r0 0 h).bind fun a_49 =>
  bd (nwO 2 h) fun a_50 h =>
  bd (fX2_init a_50 h) fun _ h =>
  (stP 2 a_49 v1 a_50 h).bind fun h =>
  k28 r0 (v1 + (nI 1)) h
def lX6_init_28  : Nat → Nat → Int32 → AH → Option (Unit × AH)
  | 0 => fun _ _ _ => none
  | n + 1 => bX6_init_28 (lX6_init_28 n)
def fX6_init  (r0 : Nat) : AH → Option (Unit × AH) := fun h =>
  bd (nwP 2 (nI 2) h) fun a_57 h =>
  (pP 6 r0 0 a_57 h).bind fun h =>
  bd (nwP 0 (nI 12) h) fun a_58 h =>
  (pP 6 r0 1 a_58 h).bind fun h =>
  (pI 6 r0 2 (nI 0) h).bind fun h =>
  lX6_init_28 3 r0 (nI 0) h
theorem sX6_init_54_n0 (r0 : Nat) (v1 : Int32) : Sm mX6_init rV 68 1352 54 [some (.ref r0), some (.int v1)] [] (lX6_init_54 0 r0 v1) := S_none
theorem sX6_init_54_n1 (r0 : Nat) (v1 : Int32) : Sm mX6_init rV 66 1336 54 [some (.ref r0), some (.int v1)] [] (lX6_init_54 1 r0 v1) := by
  show Sm mX6_init rV 66 1336 54 [some (.ref r0), some (.int v1)] [] (bX6_init_54 (lX6_init_54 0) r0 v1)
  unfold bX6_init_54
  refine S_iload_n (pc := 54) dX6_init_54 rfl ?_
  refine S_bipush (pc := 55) (v := (nI 12)) dX6_init_55 kB_12 ?_
  refine S_icmpge (pc := 57) (tgt := 79) dX6_init_57 (by decide) ?_ ?_
  · exact S_vret (pc := 79) ⟨rfl, rfl⟩ rfl rfl dX6_init_79
  · refine S_aload_n (pc := 60) dX6_init_60 rfl ?_
    refine S_gP (pc := 61) fl_X6_19 rfl dX6_init_61 (fun a_23 => ?_)
    refine S_iload_n (pc := 64) dX6_init_64 rfl ?_
    refine S_new (pc := 65) (c := 0) rfl w35 w167 w5 ⟨rfl, rfl⟩ dX6_init_65 (fun a_24 => ?_)
    refine S_dup (pc := 68) rfl dX6_init_68 ?_
    refine Y_IN (pc := 69) (st := [.ref a_24, .int v1, .ref a_23]) (kc' := 68) (ks' := 1352) (ktX0_init a_24) mw_X0_init rfl rfl w169 nw_X6_28_X0_init (RO.mk rfl rfl rfl rfl) rfl rfl rfl dX6_init_69 ⟨rfl, rfl⟩ ?_
    refine S_stP (pc := 72) (c := 0) (by decide) dX6_init_72 ?_
    refine Z_iinc (pc := 73) (v := (nI 1)) (lv' := [some (.ref r0), some (.int (v1 + (nI 1)))]) dX6_init_73 rfl kI_1 rfl rfl rfl ?_
    refine S_goto (pc := 76) (tgt := 54) dX6_init_76 (by decide) ?_
    exact (sX6_init_54_n0 r0 (v1 + (nI 1)))
theorem sX6_init_54_n2 (r0 : Nat) (v1 : Int32) : Sm mX6_init rV 64 1320 54 [some (.ref r0), some (.int v1)] [] (lX6_init_54 2 r0 v1) := by
  show Sm mX6_init rV 64 1320 54 [some (.ref r0), some (.int v1)] [] (bX6_init_54 (lX6_init_54 1) r0 v1)
  unfold bX6_init_54
  refine S_iload_n (pc := 54) dX6_init_54 rfl ?_
  refine S_bipush (pc := 55) (v := (nI 12)) dX6_init_55 kB_12 ?_
  refine S_icmpge (pc := 57) (tgt := 79) dX6_init_57 (by decide) ?_ ?_
  · exact S_vret (pc := 79) ⟨rfl, rfl⟩ rfl rfl dX6_init_79
  · refine S_aload_n (pc := 60) dX6_init_60 rfl ?_
    refine S_gP (pc := 61) fl_X6_19 rfl dX6_init_61 (fun a_25 => ?_)
    refine S_iload_n (pc := 64) dX6_init_64 rfl ?_
    refine S_new (pc := 65) (c := 0) rfl w35 w167 w5 ⟨rfl, rfl⟩ dX6_init_65 (fun a_26 => ?_)
    refine S_dup (pc := 68) rfl dX6_init_68 ?_
    refine Y_IN (pc := 69) (st := [.ref a_26, .int v1, .ref a_25]) (kc' := 66) (ks' := 1336) (ktX0_init a_26) mw_X0_init rfl rfl w169 nw_X6_28_X0_init (RO.mk rfl rfl rfl rfl) rfl rfl rfl dX6_init_69 ⟨rfl, rfl⟩ ?_
    refine S_stP (pc := 72) (c := 0) (by decide) dX6_init_72 ?_
    refine Z_iinc (pc := 73) (v := (nI 1)) (lv' := [some (.ref r0), some (.int (v1 + (nI 1)))]) dX6_init_73 rfl kI_1 rfl rfl rfl ?_
    refine S_goto (pc := 76) (tgt := 54) dX6_init_76 (by decide) ?_
    exact (sX6_init_54_n1 r0 (v1 + (nI 1)))
theorem sX6_init_54_n3 (r0 : Nat) (v1 : Int32) : Sm mX6_init rV 62 1304 54 [some (.ref r0), some (.int v1)] [] (lX6_init_54 3 r0 v1) := by
  show Sm mX6_init rV 62 1304 54 [some (.ref r0), some (.int v1)] [] (bX6_init_54 (lX6_init_54 2) r0 v1)
  unfold bX6_init_54
  refine S_iload_n (pc := 54) dX6_init_54 rfl ?_
  refine S_bipush (pc := 55) (v := (nI 12)) dX6_init_55 kB_12 ?_
  refine S_icmpge (pc := 57) (tgt := 79) dX6_init_57 (by decide) ?_ ?_
  · exact S_vret (pc := 79) ⟨rfl, rfl⟩ rfl rfl dX6_init_79
  · refine S_aload_n (pc := 60) dX6_init_60 rfl ?_
    refine S_gP (pc := 61) fl_X6_19 rfl dX6_init_61 (fun a_27 => ?_)
    refine S_iload_n (pc := 64) dX6_init_64 rfl ?_
    refine S_new (pc := 65) (c := 0) rfl w35 w167 w5 ⟨rfl, rfl⟩ dX6_init_65 (fun a_28 => ?_)
    refine S_dup (pc := 68) rfl dX6_init_68 ?_
    refine Y_IN (pc := 69) (st := [.ref a_28, .int v1, .ref a_27]) (kc' := 64) (ks' := 1320) (ktX0_init a_28) mw_X0_init rfl rfl w169 nw_X6_28_X0_init (RO.mk rfl rfl rfl rfl) rfl rfl rfl dX6_init_69 ⟨rfl, rfl⟩ ?_
    refine S_stP (pc := 72) (c := 0) (by decide) dX6_init_72 ?_
    refine Z_iinc (pc := 73) (v := (nI 1)) (lv' := [some (.ref r0), some (.int (v1 + (nI 1)))]) dX6_init_73 rfl kI_1 rfl rfl rfl ?_
    refine S_goto (pc := 76) (tgt := 54) dX6_init_76 (by decide) ?_
    exact (sX6_init_54_n2 r0 (v1 + (nI 1)))
theorem sX6_init_54_n4 (r0 : Nat) (v1 : Int32) : Sm mX6_init rV 60 1288 54 [some (.ref r0), some (.int v1)] [] (lX6_init_54 4 r0 v1) := by
  show Sm mX6_init rV 60 1288 54 [some (.ref r0), some (.int v1)] [] (bX6_init_54 (lX6_init_54 3) r0 v1)
  unfold bX6_init_54
  refine S_iload_n (pc := 54) dX6_init_54 rfl ?_
  refine S_bipush (pc := 55) (v := (nI 12)) dX6_init_55 kB_12 ?_
  refine S_icmpge (pc := 57) (tgt := 79) dX6_init_57 (by decide) ?_ ?_
  · exact S_vret (pc := 79) ⟨rfl, rfl⟩ rfl rfl dX6_init_79
  · refine S_aload_n (pc := 60) dX6_init_60 rfl ?_
    refine S_gP (pc := 61) fl_X6_19 rfl dX6_init_61 (fun a_29 => ?_)
    refine S_iload_n (pc := 64) dX6_init_64 rfl ?_
    refine S_new (pc := 65) (c := 0) rfl w35 w167 w5 ⟨rfl, rfl⟩ dX6_init_65 (fun a_30 => ?_)
    refine S_dup (pc := 68) rfl dX6_init_68 ?_
    refine Y_IN (pc := 69) (st := [.ref a_30, .int v1, .ref a_29]) (kc' := 62) (ks' := 1304) (ktX0_init a_30) mw_X0_init rfl rfl w169 nw_X6_28_X0_init (RO.mk rfl rfl rfl rfl) rfl rfl rfl dX6_init_69 ⟨rfl, rfl⟩ ?_
    refine S_stP (pc := 72) (c := 0) (by decide) dX6_init_72 ?_
    refine Z_iinc (pc := 73) (v := (nI 1)) (lv' := [some (.ref r0), some (.int (v1 + (nI 1)))]) dX6_init_73 rfl kI_1 rfl rfl rfl ?_
    refine S_goto (pc := 76) (tgt := 54) dX6_init_76 (by decide) ?_
    exact (sX6_init_54_n3 r0 (v1 + (nI 1)))
theorem sX6_init_54_n5 (r0 : Nat) (v1 : Int32) : Sm mX6_init rV 58 1272 54 [some (.ref r0), some (.int v1)] [] (lX6_init_54 5 r0 v1) := by
  show Sm mX6_init rV 58 1272 54 [some (.ref r0), some (.int v1)] [] (bX6_init_54 (lX6_init_54 4) r0 v1)
  unfold bX6_init_54
  refine S_iload_n (pc := 54) dX6_init_54 rfl ?_
  refine S_bipush (pc := 55) (v := (nI 12)) dX6_init_55 kB_12 ?_
  refine S_icmpge (pc := 57) (tgt := 79) dX6_init_57 (by decide) ?_ ?_
  · exact S_vret (pc := 79) ⟨rfl, rfl⟩ rfl rfl dX6_init_79
  · refine S_aload_n (pc := 60) dX6_init_60 rfl ?_
    refine S_gP (pc := 61) fl_X6_19 rfl dX6_init_61 (fun a_31 => ?_)
    refine S_iload_n (pc := 64) dX6_init_64 rfl ?_
    refine S_new (pc := 65) (c := 0) rfl w35 w167 w5 ⟨rfl, rfl⟩ dX6_init_65 (fun a_32 => ?_)
    refine S_dup (pc := 68) rfl dX6_init_68 ?_
    refine Y_IN (pc := 69) (st := [.ref a_32, .int v1, .ref a_31]) (kc' := 60) (ks' := 1288) (ktX0_init a_32) mw_X0_init rfl rfl w169 nw_X6_28_X0_init (RO.mk rfl rfl rfl rfl) rfl rfl rfl dX6_init_69 ⟨rfl, rfl⟩ ?_
    refine S_stP (pc := 72) (c := 0) (by decide) dX6_init_72 ?_
    refine Z_iinc (pc := 73) (v := (nI 1)) (lv' := [some (.ref r0), some (.int (v1 + (nI 1)))]) dX6_init_73 rfl kI_1 rfl rfl rfl ?_
    refine S_goto (pc := 76) (tgt := 54) dX6_init_76 (by decide) ?_
    exact (sX6_init_54_n4 r0 (v1 + (nI 1)))
theorem sX6_init_54_n6 (r0 : Nat) (v1 : Int32) : Sm mX6_init rV 56 1256 54 [some (.ref r0), some (.int v1)] [] (lX6_init_54 6 r0 v1) := by
  show Sm mX6_init rV 56 1256 54 [some (.ref r0), some (.int v1)] [] (bX6_init_54 (lX6_init_54 5) r0 v1)
  unfold bX6_init_54
  refine S_iload_n (pc := 54) dX6_init_54 rfl ?_
  refine S_bipush (pc := 55) (v := (nI 12)) dX6_init_55 kB_12 ?_
  refine S_icmpge (pc := 57) (tgt := 79) dX6_init_57 (by decide) ?_ ?_
  · exact S_vret (pc := 79) ⟨rfl, rfl⟩ rfl rfl dX6_init_79
  · refine S_aload_n (pc := 60) dX6_init_60 rfl ?_
    refine S_gP (pc := 61) fl_X6_19 rfl dX6_init_61 (fun a_33 => ?_)
    refine S_iload_n (pc := 64) dX6_init_64 rfl ?_
    refine S_new (pc := 65) (c := 0) rfl w35 w167 w5 ⟨rfl, rfl⟩ dX6_init_65 (fun a_34 => ?_)
    refine S_dup (pc := 68) rfl dX6_init_68 ?_
    refine Y_IN (pc := 69) (st := [.ref a_34, .int v1, .ref a_33]) (kc' := 58) (ks' := 1272) (ktX0_init a_34) mw_X0_init rfl rfl w169 nw_X6_28_X0_init (RO.mk rfl rfl rfl rfl) rfl rfl rfl dX6_init_69 ⟨rfl, rfl⟩ ?_
    refine S_stP (pc := 72) (c := 0) (by decide) dX6_init_72 ?_
    refine Z_iinc (pc := 73) (v := (nI 1)) (lv' := [some (.ref r0), some (.int (v1 + (nI 1)))]) dX6_init_73 rfl kI_1 rfl rfl rfl ?_
    refine S_goto (pc := 76) (tgt := 54) dX6_init_76 (by decide) ?_
    exact (sX6_init_54_n5 r0 (v1 + (nI 1)))
theorem sX6_init_54_n7 (r0 : Nat) (v1 : Int32) : Sm mX6_init rV 54 1240 54 [some (.ref r0), some (.int v1)] [] (lX6_init_54 7 r0 v1) := by
  show Sm mX6_init rV 54 1240 54 [some (.ref r0), some (.int v1)] [] (bX6_init_54 (lX6_init_54 6) r0 v1)
  unfold bX6_init_54
  refine S_iload_n (pc := 54) dX6_init_54 rfl ?_
  refine S_bipush (pc := 55) (v := (nI 12)) dX6_init_55 kB_12 ?_
  refine S_icmpge (pc := 57) (tgt := 79) dX6_init_57 (by decide) ?_ ?_
  · exact S_vret (pc := 79) ⟨rfl, rfl⟩ rfl rfl dX6_init_79
  · refine S_aload_n (pc := 60) dX6_init_60 rfl ?_
    refine S_gP (pc := 61) fl_X6_19 rfl dX6_init_61 (fun a_35 => ?_)
    refine S_iload_n (pc := 64) dX6_init_64 rfl ?_
    refine S_new (pc := 65) (c := 0) rfl w35 w167 w5 ⟨rfl, rfl⟩ dX6_init_65 (fun a_36 => ?_)
    refine S_dup (pc := 68) rfl dX6_init_68 ?_
    refine Y_IN (pc := 69) (st := [.ref a_36, .int v1, .ref a_35]) (kc' := 56) (ks' := 1256) (ktX0_init a_36) mw_X0_init rfl rfl w169 nw_X6_28_X0_init (RO.mk rfl rfl rfl rfl) rfl rfl rfl dX6_init_69 ⟨rfl, rfl⟩ ?_
    refine S_stP (pc := 72) (c := 0) (by decide) dX6_init_72 ?_
    refine Z_iinc (pc := 73) (v := (nI 1)) (lv' := [some (.ref r0), some (.int (v1 + (nI 1)))]) dX6_init_73 rfl kI_1 rfl rfl rfl ?_
    refine S_goto (pc := 76) (tgt := 54) dX6_init_76 (by decide) ?_
    exact (sX6_init_54_n6 r0 (v1 + (nI 1)))
theorem sX6_init_54_n8 (r0 : Nat) (v1 : Int32) : Sm mX6_init rV 52 1224 54 [some (.ref r0), some (.int v1)] [] (lX6_init_54 8 r0 v1) := by
  show Sm mX6_init rV 52 1224 54 [some (.ref r0), some (.int v1)] [] (bX6_init_54 (lX6_init_54 7) r0 v1)
  unfold bX6_init_54
  refine S_iload_n (pc := 54) dX6_init_54 rfl ?_
  refine S_bipush (pc := 55) (v := (nI 12)) dX6_init_55 kB_12 ?_
  refine S_icmpge (pc := 57) (tgt := 79) dX6_init_57 (by decide) ?_ ?_
  · exact S_vret (pc := 79) ⟨rfl, rfl⟩ rfl rfl dX6_init_79
  · refine S_aload_n (pc := 60) dX6_init_60 rfl ?_
    refine S_gP (pc := 61) fl_X6_19 rfl dX6_init_61 (fun a_37 => ?_)
    refine S_iload_n (pc := 64) dX6_init_64 rfl ?_
    refine S_new (pc := 65) (c := 0) rfl w35 w167 w5 ⟨rfl, rfl⟩ dX6_init_65 (fun a_38 => ?_)
    refine S_dup (pc := 68) rfl dX6_init_68 ?_
    refine Y_IN (pc := 69) (st := [.ref a_38, .int v1, .ref a_37]) (kc' := 54) (ks' := 1240) (ktX0_init a_38) mw_X0_init rfl rfl w169 nw_X6_28_X0_init (RO.mk rfl rfl rfl rfl) rfl rfl rfl dX6_init_69 ⟨rfl, rfl⟩ ?_
    refine S_stP (pc := 72) (c := 0) (by decide) dX6_init_72 ?_
    refine Z_iinc (pc := 73) (v := (nI 1)) (lv' := [some (.ref r0), some (.int (v1 + (nI 1)))]) dX6_init_73 rfl kI_1 rfl rfl rfl ?_
    refine S_goto (pc := 76) (tgt := 54) dX6_init_76 (by decide) ?_
    exact (sX6_init_54_n7 r0 (v1 + (nI 1)))
theorem sX6_init_54_n9 (r0 : Nat) (v1 : Int32) : Sm mX6_init rV 50 1208 54 [some (.ref r0), some (.int v1)] [] (lX6_init_54 9 r0 v1) := by
  show Sm mX6_init rV 50 1208 54 [some (.ref r0), some (.int v1)] [] (bX6_init_54 (lX6_init_54 8) r0 v1)
  unfold bX6_init_54
  refine S_iload_n (pc := 54) dX6_init_54 rfl ?_
  refine S_bipush (pc := 55) (v := (nI 12)) dX6_init_55 kB_12 ?_
  refine S_icmpge (pc := 57) (tgt := 79) dX6_init_57 (by decide) ?_ ?_
  · exact S_vret (pc := 79) ⟨rfl, rfl⟩ rfl rfl dX6_init_79
  · refine S_aload_n (pc := 60) dX6_init_60 rfl ?_
    refine S_gP (pc := 61) fl_X6_19 rfl dX6_init_61 (fun a_39 => ?_)
    refine S_iload_n (pc := 64) dX6_init_64 rfl ?_
    refine S_new (pc := 65) (c := 0) rfl w35 w167 w5 ⟨rfl, rfl⟩ dX6_init_65 (fun a_40 => ?_)
    refine S_dup (pc := 68) rfl dX6_init_68 ?_
    refine Y_IN (pc := 69) (st := [.ref a_40, .int v1, .ref a_39]) (kc' := 52) (ks' := 1224) (ktX0_init a_40) mw_X0_init rfl rfl w169 nw_X6_28_X0_init (RO.mk rfl rfl rfl rfl) rfl rfl rfl dX6_init_69 ⟨rfl, rfl⟩ ?_
    refine S_stP (pc := 72) (c := 0) (by decide) dX6_init_72 ?_
    refine Z_iinc (pc := 73) (v := (nI 1)) (lv' := [some (.ref r0), some (.int (v1 + (nI 1)))]) dX6_init_73 rfl kI_1 rfl rfl rfl ?_
    refine S_goto (pc := 76) (tgt := 54) dX6_init_76 (by decide) ?_
    exact (sX6_init_54_n8 r0 (v1 + (nI 1)))
theorem sX6_init_54_n10 (r0 : Nat) (v1 : Int32) : Sm mX6_init rV 48 1192 54 [some (.ref r0), some (.int v1)] [] (lX6_init_54 10 r0 v1) := by
  show Sm mX6_init rV 48 1192 54 [some (.ref r0), some (.int v1)] [] (bX6_init_54 (lX6_init_54 9) r0 v1)
  unfold bX6_init_54
  refine S_iload_n (pc := 54) dX6_init_54 rfl ?_
  refine S_bipush (pc := 55) (v := (nI 12)) dX6_init_55 kB_12 ?_
  refine S_icmpge (pc := 57) (tgt := 79) dX6_init_57 (by decide) ?_ ?_
  · exact S_vret (pc := 79) ⟨rfl, rfl⟩ rfl rfl dX6_init_79
  · refine S_aload_n (pc := 60) dX6_init_60 rfl ?_
    refine S_gP (pc := 61) fl_X6_19 rfl dX6_init_61 (fun a_41 => ?_)
    refine S_iload_n (pc := 64) dX6_init_64 rfl ?_
    refine S_new (pc := 65) (c := 0) rfl w35 w167 w5 ⟨rfl, rfl⟩ dX6_init_65 (fun a_42 => ?_)
    refine S_dup (pc := 68) rfl dX6_init_68 ?_
    refine Y_IN (pc := 69) (st := [.ref a_42, .int v1, .ref a_41]) (kc' := 50) (ks' := 1208) (ktX0_init a_42) mw_X0_init rfl rfl w169 nw_X6_28_X0_init (RO.mk rfl rfl rfl rfl) rfl rfl rfl dX6_init_69 ⟨rfl, rfl⟩ ?_
    refine S_stP (pc := 72) (c := 0) (by decide) dX6_init_72 ?_
    refine Z_iinc (pc := 73) (v := (nI 1)) (lv' := [some (.ref r0), some (.int (v1 + (nI 1)))]) dX6_init_73 rfl kI_1 rfl rfl rfl ?_
    refine S_goto (pc := 76) (tgt := 54) dX6_init_76 (by decide) ?_
    exact (sX6_init_54_n9 r0 (v1 + (nI 1)))
theorem sX6_init_54_n11 (r0 : Nat) (v1 : Int32) : Sm mX6_init rV 46 1176 54 [some (.ref r0), some (.int v1)] [] (lX6_init_54 11 r0 v1) := by
  show Sm mX6_init rV 46 1176 54 [some (.ref r0), some (.int v1)] [] (bX6_init_54 (lX6_init_54 10) r0 v1)
  unfold bX6_init_54
  refine S_iload_n (pc := 54) dX6_init_54 rfl ?_
  refine S_bipush (pc := 55) (v := (nI 12)) dX6_init_55 kB_12 ?_
  refine S_icmpge (pc := 57) (tgt := 79) dX6_init_57 (by decide) ?_ ?_
  · exact S_vret (pc := 79) ⟨rfl, rfl⟩ rfl rfl dX6_init_79
  · refine S_aload_n (pc := 60) dX6_init_60 rfl ?_
    refine S_gP (pc := 61) fl_X6_19 rfl dX6_init_61 (fun a_43 => ?_)
    refine S_iload_n (pc := 64) dX6_init_64 rfl ?_
    refine S_new (pc := 65) (c := 0) rfl w35 w167 w5 ⟨rfl, rfl⟩ dX6_init_65 (fun a_44 => ?_)
    refine S_dup (pc := 68) rfl dX6_init_68 ?_
    refine Y_IN (pc := 69) (st := [.ref a_44, .int v1, .ref a_43]) (kc' := 48) (ks' := 1192) (ktX0_init a_44) mw_X0_init rfl rfl w169 nw_X6_28_X0_init (RO.mk rfl rfl rfl rfl) rfl rfl rfl dX6_init_69 ⟨rfl, rfl⟩ ?_
    refine S_stP (pc := 72) (c := 0) (by decide) dX6_init_72 ?_
    refine Z_iinc (pc := 73) (v := (nI 1)) (lv' := [some (.ref r0), some (.int (v1 + (nI 1)))]) dX6_init_73 rfl kI_1 rfl rfl rfl ?_
    refine S_goto (pc := 76) (tgt := 54) dX6_init_76 (by decide) ?_
    exact (sX6_init_54_n10 r0 (v1 + (nI 1)))
theorem sX6_init_54_n12 (r0 : Nat) (v1 : Int32) : Sm mX6_init rV 44 1160 54 [some (.ref r0), some (.int v1)] [] (lX6_init_54 12 r0 v1) := by
  show Sm mX6_init rV 44 1160 54 [some (.ref r0), some (.int v1)] [] (bX6_init_54 (lX6_init_54 11) r0 v1)
  unfold bX6_init_54
  refine S_iload_n (pc := 54) dX6_init_54 rfl ?_
  refine S_bipush (pc := 55) (v := (nI 12)) dX6_init_55 kB_12 ?_
  refine S_icmpge (pc := 57) (tgt := 79) dX6_init_57 (by decide) ?_ ?_
  · exact S_vret (pc := 79) ⟨rfl, rfl⟩ rfl rfl dX6_init_79
  · refine S_aload_n (pc := 60) dX6_init_60 rfl ?_
    refine S_gP (pc := 61) fl_X6_19 rfl dX6_init_61 (fun a_45 => ?_)
    refine S_iload_n (pc := 64) dX6_init_64 rfl ?_
    refine S_new (pc := 65) (c := 0) rfl w35 w167 w5 ⟨rfl, rfl⟩ dX6_init_65 (fun a_46 => ?_)
    refine S_dup (pc := 68) rfl dX6_init_68 ?_
    refine Y_IN (pc := 69) (st := [.ref a_46, .int v1, .ref a_45]) (kc' := 46) (ks' := 1176) (ktX0_init a_46) mw_X0_init rfl rfl w169 nw_X6_28_X0_init (RO.mk rfl rfl rfl rfl) rfl rfl rfl dX6_init_69 ⟨rfl, rfl⟩ ?_
    refine S_stP (pc := 72) (c := 0) (by decide) dX6_init_72 ?_
    refine Z_iinc (pc := 73) (v := (nI 1)) (lv' := [some (.ref r0), some (.int (v1 + (nI 1)))]) dX6_init_73 rfl kI_1 rfl rfl rfl ?_
    refine S_goto (pc := 76) (tgt := 54) dX6_init_76 (by decide) ?_
    exact (sX6_init_54_n11 r0 (v1 + (nI 1)))
theorem sX6_init_54_n13 (r0 : Nat) (v1 : Int32) : Sm mX6_init rV 42 1144 54 [some (.ref r0), some (.int v1)] [] (lX6_init_54 13 r0 v1) := by
  show Sm mX6_init rV 42 1144 54 [some (.ref r0), some (.int v1)] [] (bX6_init_54 (lX6_init_54 12) r0 v1)
  unfold bX6_init_54
  refine S_iload_n (pc := 54) dX6_init_54 rfl ?_
  refine S_bipush (pc := 55) (v := (nI 12)) dX6_init_55 kB_12 ?_
  refine S_icmpge (pc := 57) (tgt := 79) dX6_init_57 (by decide) ?_ ?_
  · exact S_vret (pc := 79) ⟨rfl, rfl⟩ rfl rfl dX6_init_79
  · refine S_aload_n (pc := 60) dX6_init_60 rfl ?_
    refine S_gP (pc := 61) fl_X6_19 rfl dX6_init_61 (fun a_47 => ?_)
    refine S_iload_n (pc := 64) dX6_init_64 rfl ?_
    refine S_new (pc := 65) (c := 0) rfl w35 w167 w5 ⟨rfl, rfl⟩ dX6_init_65 (fun a_48 => ?_)
    refine S_dup (pc := 68) rfl dX6_init_68 ?_
    refine Y_IN (pc := 69) (st := [.ref a_48, .int v1, .ref a_47]) (kc' := 44) (ks' := 1160) (ktX0_init a_48) mw_X0_init rfl rfl w169 nw_X6_28_X0_init (RO.mk rfl rfl rfl rfl) rfl rfl rfl dX6_init_69 ⟨rfl, rfl⟩ ?_
    refine S_stP (pc := 72) (c := 0) (by decide) dX6_init_72 ?_
    refine Z_iinc (pc := 73) (v := (nI 1)) (lv' := [some (.ref r0), some (.int (v1 + (nI 1)))]) dX6_init_73 rfl kI_1 rfl rfl rfl ?_
    refine S_goto (pc := 76) (tgt := 54) dX6_init_76 (by decide) ?_
    exact (sX6_init_54_n12 r0 (v1 + (nI 1)))
theorem sX6_init_28_n0 (r0 : Nat) (v1 : Int32) : Sm mX6_init rV 62 1709 28 [some (.ref r0), some (.int v1)] [] (lX6_init_28 0 r0 v1) := S_none
theorem sX6_init_28_n1 (r0 : Nat) (v1 : Int32) : Sm mX6_init rV 42 1144 28 [some (.ref r0), some (.int v1)] [] (lX6_init_28 1 r0 v1) := by
  show Sm mX6_init rV 42 1144 28 [some (.ref r0), some (.int v1)] [] (bX6_init_28 (lX6_init_28 0) r0 v1)
  unfold bX6_init_28
  refine S_iload_n (pc := 28) dX6_init_28 rfl ?_
  refine S_iconst (pc := 29) (v := (nI 2)) dX6_init_29 kI_2 ?_
  refine S_icmpge (pc := 30) (tgt := 52) dX6_init_30 (by decide) ?_ ?_
  · refine S_iconst (pc := 52) (v := (nI 0)) dX6_init_52 kI_0 ?_
    refine Z_istore_n (pc := 53) (lv' := [some (.ref r0), some (.int (nI 0))]) dX6_init_53 rfl rfl rfl ?_
    exact (sX6_init_54_n13 r0 (nI 0))
  · refine S_aload_n (pc := 33) dX6_init_33 rfl ?_
    refine S_gP (pc := 34) fl_X6_11 rfl dX6_init_34 (fun a_51 => ?_)
    refine S_iload_n (pc := 37) dX6_init_37 rfl ?_
    refine S_new (pc := 38) (c := 2) rfl w33 w37 w3 ⟨rfl, rfl⟩ dX6_init_38 (fun a_52 => ?_)
    refine S_dup (pc := 41) rfl dX6_init_41 ?_
    refine Y_IN (pc := 42) (st := [.ref a_52, .int v1, .ref a_51]) (kc' := 62) (ks' := 1709) (ktX2_init a_52) mw_X2_init rfl rfl w39 nw_X6_27_X2_init (RO.mk rfl rfl rfl rfl) rfl rfl rfl dX6_init_42 ⟨rfl, rfl⟩ ?_
    refine S_stP (pc := 45) (c := 2) (by decide) dX6_init_45 ?_
    refine Z_iinc (pc := 46) (v := (nI 1)) (lv' := [some (.ref r0), some (.int (v1 + (nI 1)))]) dX6_init_46 rfl kI_1 rfl rfl rfl ?_
    refine S_goto (pc := 49) (tgt := 28) dX6_init_49 (by decide) ?_
    exact (sX6_init_28_n0 r0 (v1 + (nI 1)))
theorem sX6_init_28_n2 (r0 : Nat) (v1 : Int32) : Sm mX6_init rV 22 579 28 [some (.ref r0), some (.int v1)] [] (lX6_init_28 2 r0 v1) := by
  show Sm mX6_init rV 22 579 28 [some (.ref r0), some (.int v1)] [] (bX6_init_28 (lX6_init_28 1) r0 v1)
  unfold bX6_init_28
  refine S_iload_n (pc := 28) dX6_init_28 rfl ?_
  refine S_iconst (pc := 29) (v := (nI 2)) dX6_init_29 kI_2 ?_
  refine S_icmpge (pc := 30) (tgt := 52) dX6_init_30 (by decide) ?_ ?_
  · refine S_iconst (pc := 52) (v := (nI 0)) dX6_init_52 kI_0 ?_
    refine Z_istore_n (pc := 53) (lv' := [some (.ref r0), some (.int (nI 0))]) dX6_init_53 rfl rfl rfl ?_
    exact (S_widen rfl rfl (sX6_init_54_n13 r0 (nI 0)))
  · refine S_aload_n (pc := 33) dX6_init_33 rfl ?_
    refine S_gP (pc := 34) fl_X6_11 rfl dX6_init_34 (fun a_53 => ?_)
    refine S_iload_n (pc := 37) dX6_init_37 rfl ?_
    refine S_new (pc := 38) (c := 2) rfl w33 w37 w3 ⟨rfl, rfl⟩ dX6_init_38 (fun a_54 => ?_)
    refine S_dup (pc := 41) rfl dX6_init_41 ?_
    refine Y_IN (pc := 42) (st := [.ref a_54, .int v1, .ref a_53]) (kc' := 42) (ks' := 1144) (ktX2_init a_54) mw_X2_init rfl rfl w39 nw_X6_27_X2_init (RO.mk rfl rfl rfl rfl) rfl rfl rfl dX6_init_42 ⟨rfl, rfl⟩ ?_
    refine S_stP (pc := 45) (c := 2) (by decide) dX6_init_45 ?_
    refine Z_iinc (pc := 46) (v := (nI 1)) (lv' := [some (.ref r0), some (.int (v1 + (nI 1)))]) dX6_init_46 rfl kI_1 rfl rfl rfl ?_
    refine S_goto (pc := 49) (tgt := 28) dX6_init_49 (by decide) ?_
    exact (sX6_init_28_n1 r0 (v1 + (nI 1)))
theorem sX6_init_28_n3 (r0 : Nat) (v1 : Int32) : Sm mX6_init rV 2 14 28 [some (.ref r0), some (.int v1)] [] (lX6_init_28 3 r0 v1) := by
  show Sm mX6_init rV 2 14 28 [some (.ref r0), some (.int v1)] [] (bX6_init_28 (lX6_init_28 2) r0 v1)
  unfold bX6_init_28
  refine S_iload_n (pc := 28) dX6_init_28 rfl ?_
  refine S_iconst (pc := 29) (v := (nI 2)) dX6_init_29 kI_2 ?_
  refine S_icmpge (pc := 30) (tgt := 52) dX6_init_30 (by decide) ?_ ?_
  · refine S_iconst (pc := 52) (v := (nI 0)) dX6_init_52 kI_0 ?_
    refine Z_istore_n (pc := 53) (lv' := [some (.ref r0), some (.int (nI 0))]) dX6_init_53 rfl rfl rfl ?_
    exact (S_widen rfl rfl (sX6_init_54_n13 r0 (nI 0)))
  · refine S_aload_n (pc := 33) dX6_init_33 rfl ?_
    refine S_gP (pc := 34) fl_X6_11 rfl dX6_init_34 (fun a_55 => ?_)
    refine S_iload_n (pc := 37) dX6_init_37 rfl ?_
    refine S_new (pc := 38) (c := 2) rfl w33 w37 w3 ⟨rfl, rfl⟩ dX6_init_38 (fun a_56 => ?_)
    refine S_dup (pc := 41) rfl dX6_init_41 ?_
    refine Y_IN (pc := 42) (st := [.ref a_56, .int v1, .ref a_55]) (kc' := 22) (ks' := 579) (ktX2_init a_56) mw_X2_init rfl rfl w39 nw_X6_27_X2_init (RO.mk rfl rfl rfl rfl) rfl rfl rfl dX6_init_42 ⟨rfl, rfl⟩ ?_
    refine S_stP (pc := 45) (c := 2) (by decide) dX6_init_45 ?_
    refine Z_iinc (pc := 46) (v := (nI 1)) (lv' := [some (.ref r0), some (.int (v1 + (nI 1)))]) dX6_init_46 rfl kI_1 rfl rfl rfl ?_
    refine S_goto (pc := 49) (tgt := 28) dX6_init_49 (by decide) ?_
    exact (sX6_init_28_n2 r0 (v1 + (nI 1)))
theorem sX6_init  (r0 : Nat) : Sm mX6_init rV 0 0 0 [some (.ref r0), none] [] (fX6_init r0) := by
  unfold fX6_init
  refine S_aload_n (pc := 0) dX6_init_0 rfl ?_
  refine S_obj (pc := 1) w32 w25 w26 ⟨rfl, rfl⟩ dX6_init_1 ?_
  refine S_aload_n (pc := 4) dX6_init_4 rfl ?_
  refine S_iconst (pc := 5) (v := (nI 2)) dX6_init_5 kI_2 ?_
  refine S_nwP (pc := 6) (c := 2) (N := 2) (by decide) rfl (by decide +kernel) w33 (by decide) ⟨rfl, rfl, rfl⟩ dX6_init_6 (fun a_57 => ?_)
  refine S_pF (pc := 9) fl_X6_11 rfl rfl rfl (fun r hr => by cases hr; rfl) dX6_init_9 ?_
  refine S_aload_n (pc := 12) dX6_init_12 rfl ?_
  refine S_bipush (pc := 13) (v := (nI 12)) dX6_init_13 kB_12 ?_
  refine S_nwP (pc := 15) (c := 0) (N := 12) (by decide) rfl (by decide +kernel) w35 (by decide) ⟨rfl, rfl, rfl⟩ dX6_init_15 (fun a_58 => ?_)
  refine S_pF (pc := 18) fl_X6_19 rfl rfl rfl (fun r hr => by cases hr; rfl) dX6_init_18 ?_
  refine S_aload_n (pc := 21) dX6_init_21 rfl ?_
  refine S_iconst (pc := 22) (v := (nI 0)) dX6_init_22 kI_0 ?_
  refine S_pI (pc := 23) fl_X6_23 rfl rfl dX6_init_23 ?_
  refine S_iconst (pc := 26) (v := (nI 0)) dX6_init_26 kI_0 ?_
  refine Z_istore_n (pc := 27) (lv' := [some (.ref r0), some (.int (nI 0))]) dX6_init_27 rfl rfl rfl ?_
  exact (sX6_init_28_n3 r0 (nI 0))
theorem ktX6_init (r0 : Nat) : Ct mX6_init rV [.ref r0] (fX6_init r0) := Ct.of (z := 1) pn_X6 rfl rfl rfl (sX6_init r0)
