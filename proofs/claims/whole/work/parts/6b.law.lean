theorem X_pass0 {k : Nat} {own : String} : ∀ z ∈ ([] : List (Nat × Nat × Nat × Nat)), ∃ j, 1 ≤ j ∧ j ≤ 3 ∧ j ≠ k ∧ z.2.2.2 ≠ 0 ∧ Cond.classLink own z.2.2.2 (exN j) ∈ TW := fun z hz => by cases hz
theorem X_pass {k : Nat} {own : String} {g : Nat × Nat × Nat × Nat} {l : List (Nat × Nat × Nat × Nat)} (j : Nat) (hj : 1 ≤ j ∧ j ≤ 3 ∧ j ≠ k ∧ g.2.2.2 ≠ 0) (w : Cond.classLink own g.2.2.2 (exN j) ∈ TW) (h : ∀ z ∈ l, ∃ j, 1 ≤ j ∧ j ≤ 3 ∧ j ≠ k ∧ z.2.2.2 ≠ 0 ∧ Cond.classLink own z.2.2.2 (exN j) ∈ TW) : ∀ z ∈ g :: l, ∃ j, 1 ≤ j ∧ j ≤ 3 ∧ j ≠ k ∧ z.2.2.2 ≠ 0 ∧ Cond.classLink own z.2.2.2 (exN j) ∈ TW := fun z hz => (List.mem_cons.mp hz).elim (fun e => e ▸ ⟨j, hj.1, hj.2.1, hj.2.2.1, hj.2.2.2, w⟩) (h z)
def mL_addClient : MI := (yL_addClient, cL_addClient, 7, (some .int), { frames := 7, cells := 3, slots := 18, locals := 170 }, [(0, 14, 17, 15), (0, 14, 21, 17)])
def fL_addClient  (r0 : Nat) (v1 : Int32) (v2 : Int32) (v3 : Int32) (v4 : Int32) (r5 : Nat) : AH → Option (Int32 × AH) := fun h =>
  cv 8 r0 (fX8_addClient r0 v1 v2 v3 v4) h (fun q h => match q with
  | Sum.inr x_2 =>
    (stJ r5 (nI 0) (Int32.toInt64 x_2) h).bind fun h =>
    some ((nI 0), h)
  | Sum.inl e =>
    if e = 2 then (
      some ((nI 1), h))
    else
    if e = 3 then (
      some ((nI 2), h))
    else
    none)
theorem sL_addClient  (r0 : Nat) (v1 : Int32) (v2 : Int32) (v3 : Int32) (v4 : Int32) (r5 : Nat) : Sm mL_addClient rI 0 0 0 [some (.ref r0), some (.int v1), some (.int v2), some (.int v3), some (.int v4), some (.ref r5), none] [] (fL_addClient r0 v1 v2 v3 v4 r5) := by
  unfold fL_addClient
  refine S_aload (pc := 0) dL_addClient_0 rfl ?_
  refine S_iconst (pc := 2) (v := (nI 0)) dL_addClient_2 kI_0 ?_
  refine S_aload_n (pc := 3) dL_addClient_3 rfl ?_
  refine S_iload_n (pc := 4) dL_addClient_4 rfl ?_
  refine S_iload_n (pc := 5) dL_addClient_5 rfl ?_
  refine S_iload_n (pc := 6) dL_addClient_6 rfl ?_
  refine S_iload (pc := 7) dL_addClient_7 rfl ?_
  refine S_callV (pc := 9) (st := [.int (nI 0), .ref r5]) (ktX8_addClient r0 v1 v2 v3 v4) mw_X8_addClient mv_X8_addClient w1046 (RO.mk rfl rfl rfl rfl) rfl rfl rfl dL_addClient_9 (fun q v hv => ?_) (fun q k hk => ?_)
  · cases q with
    | inl k => cases hv
    | inr x_2 =>
      cases hv
      refine S_i2l (pc := 12) dL_addClient_12 ?_
      refine S_stJ (pc := 13) dL_addClient_13 ?_
      refine S_goto (pc := 14) (tgt := 25) dL_addClient_14 (by decide) ?_
      refine S_iconst (pc := 25) (v := (nI 0)) dL_addClient_25 kI_0 ?_
      exact S_iret (pc := 26) ⟨rfl, rfl⟩ rfl rfl dL_addClient_26
  · cases q with
    | inr x => cases hk
    | inl e =>
      cases hk
      refine X_if (fun n0 => ?_) (fun n0 => ?_)
      · subst n0
        refine X_catch (hp := 17) [] (0, 14, 17, 15) [(0, 14, 21, 17)] (by decide) rfl X_pass0 (by decide) (by decide) rfl w682 (fun qx => ?_)
        refine Z_astore (pc := 17) (lv' := [some (.ref r0), some (.int v1), some (.int v2), some (.int v3), some (.int v4), some (.ref r5), some (.ref qx)]) dL_addClient_17 rfl rfl rfl ?_
        refine S_iconst (pc := 19) (v := (nI 1)) dL_addClient_19 kI_1 ?_
        exact S_iret (pc := 20) ⟨rfl, rfl⟩ rfl rfl dL_addClient_20
      · refine X_if (fun n1 => ?_) (fun n1 => ?_)
        · subst n1
          refine X_catch (hp := 21) [(0, 14, 17, 15)] (0, 14, 21, 17) [] (by decide) rfl (X_pass 2 (by decide) w682 X_pass0) (by decide) (by decide) rfl w683 (fun qx => ?_)
          refine Z_astore (pc := 21) (lv' := [some (.ref r0), some (.int v1), some (.int v2), some (.int v3), some (.int v4), some (.ref r5), some (.ref qx)]) dL_addClient_21 rfl rfl rfl ?_
          refine S_iconst (pc := 23) (v := (nI 2)) dL_addClient_23 kI_2 ?_
          exact S_iret (pc := 24) ⟨rfl, rfl⟩ rfl rfl dL_addClient_24
        · exact X_none
theorem ktL_addClient (r0 : Nat) (v1 : Int32) (v2 : Int32) (v3 : Int32) (v4 : Int32) (r5 : Nat) : CtH mL_addClient rI [.ref r0, .int v1, .int v2, .int v3, .int v4, .ref r5] (fL_addClient r0 v1 v2 v3 v4 r5) := CtH.of (z := 1) pn_L rfl rfl (sL_addClient r0 v1 v2 v3 v4 r5)
def mL_addField : MI := (yL_addField, cL_addField, 8, (some .int), { frames := 10, cells := 3, slots := 18, locals := 180 }, [(0, 16, 19, 13), (0, 16, 23, 15), (0, 16, 27, 17)])
def fL_addField  (r0 : Nat) (v1 : Int32) (v2 : Int32) (v3 : Int32) (v4 : Int32) (v5 : Int32) (r6 : Nat) : AH → Option (Int32 × AH) := fun h =>
  cv 8 r0 (fX8_addField r0 v1 v2 v3 v4 v5) h (fun q h => match q with
  | Sum.inr x_2 =>
    (stJ r6 (nI 0) (Int32.toInt64 x_2) h).bind fun h =>
    some ((nI 0), h)
  | Sum.inl e =>
    if e = 1 then (
      some ((nI 1), h))
    else
    if e = 2 then (
      some ((nI 2), h))
    else
    if e = 3 then (
      some ((nI 3), h))
    else
    none)
theorem sL_addField  (r0 : Nat) (v1 : Int32) (v2 : Int32) (v3 : Int32) (v4 : Int32) (v5 : Int32) (r6 : Nat) : Sm mL_addField rI 0 0 0 [some (.ref r0), some (.int v1), some (.int v2), some (.int v3), some (.int v4), some (.int v5), some (.ref r6), none] [] (fL_addField r0 v1 v2 v3 v4 v5 r6) := by
  unfold fL_addField
  refine S_aload (pc := 0) dL_addField_0 rfl ?_
  refine S_iconst (pc := 2) (v := (nI 0)) dL_addField_2 kI_0 ?_
  refine S_aload_n (pc := 3) dL_addField_3 rfl ?_
  refine S_iload_n (pc := 4) dL_addField_4 rfl ?_
  refine S_iload_n (pc := 5) dL_addField_5 rfl ?_
  refine S_iload_n (pc := 6) dL_addField_6 rfl ?_
  refine S_iload (pc := 7) dL_addField_7 rfl ?_
  refine S_iload (pc := 9) dL_addField_9 rfl ?_
  refine S_callV (pc := 11) (st := [.int (nI 0), .ref r6]) (ktX8_addField r0 v1 v2 v3 v4 v5) mw_X8_addField mv_X8_addField w898 (RO.mk rfl rfl rfl rfl) rfl rfl rfl dL_addField_11 (fun q v hv => ?_) (fun q k hk => ?_)
  · cases q with
    | inl k => cases hv
    | inr x_2 =>
      cases hv
      refine S_i2l (pc := 14) dL_addField_14 ?_
      refine S_stJ (pc := 15) dL_addField_15 ?_
      refine S_goto (pc := 16) (tgt := 31) dL_addField_16 (by decide) ?_
      refine S_iconst (pc := 31) (v := (nI 0)) dL_addField_31 kI_0 ?_
      exact S_iret (pc := 32) ⟨rfl, rfl⟩ rfl rfl dL_addField_32
  · cases q with
    | inr x => cases hk
    | inl e =>
      cases hk
      refine X_if (fun n0 => ?_) (fun n0 => ?_)
      · subst n0
        refine X_catch (hp := 19) [] (0, 16, 19, 13) [(0, 16, 23, 15), (0, 16, 27, 17)] (by decide) rfl X_pass0 (by decide) (by decide) rfl w681 (fun qx => ?_)
        refine Z_astore (pc := 19) (lv' := [some (.ref r0), some (.int v1), some (.int v2), some (.int v3), some (.int v4), some (.int v5), some (.ref r6), some (.ref qx)]) dL_addField_19 rfl rfl rfl ?_
        refine S_iconst (pc := 21) (v := (nI 1)) dL_addField_21 kI_1 ?_
        exact S_iret (pc := 22) ⟨rfl, rfl⟩ rfl rfl dL_addField_22
      · refine X_if (fun n1 => ?_) (fun n1 => ?_)
        · subst n1
          refine X_catch (hp := 23) [(0, 16, 19, 13)] (0, 16, 23, 15) [(0, 16, 27, 17)] (by decide) rfl (X_pass 1 (by decide) w681 X_pass0) (by decide) (by decide) rfl w682 (fun qx => ?_)
          refine Z_astore (pc := 23) (lv' := [some (.ref r0), some (.int v1), some (.int v2), some (.int v3), some (.int v4), some (.int v5), some (.ref r6), some (.ref qx)]) dL_addField_23 rfl rfl rfl ?_
          refine S_iconst (pc := 25) (v := (nI 2)) dL_addField_25 kI_2 ?_
          exact S_iret (pc := 26) ⟨rfl, rfl⟩ rfl rfl dL_addField_26
        · refine X_if (fun n2 => ?_) (fun n2 => ?_)
          · subst n2
            refine X_catch (hp := 27) [(0, 16, 19, 13), (0, 16, 23, 15)] (0, 16, 27, 17) [] (by decide) rfl (X_pass 1 (by decide) w681 (X_pass 2 (by decide) w682 X_pass0)) (by decide) (by decide) rfl w683 (fun qx => ?_)
            refine Z_astore (pc := 27) (lv' := [some (.ref r0), some (.int v1), some (.int v2), some (.int v3), some (.int v4), some (.int v5), some (.ref r6), some (.ref qx)]) dL_addField_27 rfl rfl rfl ?_
            refine S_iconst (pc := 29) (v := (nI 3)) dL_addField_29 kI_3 ?_
            exact S_iret (pc := 30) ⟨rfl, rfl⟩ rfl rfl dL_addField_30
          · exact X_none
theorem ktL_addField (r0 : Nat) (v1 : Int32) (v2 : Int32) (v3 : Int32) (v4 : Int32) (v5 : Int32) (r6 : Nat) : CtH mL_addField rI [.ref r0, .int v1, .int v2, .int v3, .int v4, .int v5, .ref r6] (fL_addField r0 v1 v2 v3 v4 v5 r6) := CtH.of (z := 1) pn_L rfl rfl (sL_addField r0 v1 v2 v3 v4 v5 r6)
def mL_addMethod : MI := (yL_addMethod, cL_addMethod, 8, (some .int), { frames := 10, cells := 3, slots := 18, locals := 181 }, [(0, 16, 19, 13), (0, 16, 23, 15), (0, 16, 27, 17)])
def fL_addMethod  (r0 : Nat) (v1 : Int32) (v2 : Int32) (v3 : Int32) (v4 : Int32) (v5 : Int32) (r6 : Nat) : AH → Option (Int32 × AH) := fun h =>
  cv 8 r0 (fX8_addMethod r0 v1 v2 v3 v4 v5) h (fun q h => match q with
  | Sum.inr x_2 =>
    (stJ r6 (nI 0) (Int32.toInt64 x_2) h).bind fun h =>
    some ((nI 0), h)
  | Sum.inl e =>
    if e = 1 then (
      some ((nI 1), h))
    else
    if e = 2 then (
      some ((nI 2), h))
    else
    if e = 3 then (
      some ((nI 3), h))
    else
    none)
theorem sL_addMethod  (r0 : Nat) (v1 : Int32) (v2 : Int32) (v3 : Int32) (v4 : Int32) (v5 : Int32) (r6 : Nat) : Sm mL_addMethod rI 0 0 0 [some (.ref r0), some (.int v1), some (.int v2), some (.int v3), some (.int v4), some (.int v5), some (.ref r6), none] [] (fL_addMethod r0 v1 v2 v3 v4 v5 r6) := by
  unfold fL_addMethod
  refine S_aload (pc := 0) dL_addMethod_0 rfl ?_
  refine S_iconst (pc := 2) (v := (nI 0)) dL_addMethod_2 kI_0 ?_
  refine S_aload_n (pc := 3) dL_addMethod_3 rfl ?_
  refine S_iload_n (pc := 4) dL_addMethod_4 rfl ?_
  refine S_iload_n (pc := 5) dL_addMethod_5 rfl ?_
  refine S_iload_n (pc := 6) dL_addMethod_6 rfl ?_
  refine S_iload (pc := 7) dL_addMethod_7 rfl ?_
  refine S_iload (pc := 9) dL_addMethod_9 rfl ?_
  refine S_callV (pc := 11) (st := [.int (nI 0), .ref r6]) (ktX8_addMethod r0 v1 v2 v3 v4 v5) mw_X8_addMethod mv_X8_addMethod w925 (RO.mk rfl rfl rfl rfl) rfl rfl rfl dL_addMethod_11 (fun q v hv => ?_) (fun q k hk => ?_)
  · cases q with
    | inl k => cases hv
    | inr x_2 =>
      cases hv
      refine S_i2l (pc := 14) dL_addMethod_14 ?_
      refine S_stJ (pc := 15) dL_addMethod_15 ?_
      refine S_goto (pc := 16) (tgt := 31) dL_addMethod_16 (by decide) ?_
      refine S_iconst (pc := 31) (v := (nI 0)) dL_addMethod_31 kI_0 ?_
      exact S_iret (pc := 32) ⟨rfl, rfl⟩ rfl rfl dL_addMethod_32
  · cases q with
    | inr x => cases hk
    | inl e =>
      cases hk
      refine X_if (fun n0 => ?_) (fun n0 => ?_)
      · subst n0
        refine X_catch (hp := 19) [] (0, 16, 19, 13) [(0, 16, 23, 15), (0, 16, 27, 17)] (by decide) rfl X_pass0 (by decide) (by decide) rfl w681 (fun qx => ?_)
        refine Z_astore (pc := 19) (lv' := [some (.ref r0), some (.int v1), some (.int v2), some (.int v3), some (.int v4), some (.int v5), some (.ref r6), some (.ref qx)]) dL_addMethod_19 rfl rfl rfl ?_
        refine S_iconst (pc := 21) (v := (nI 1)) dL_addMethod_21 kI_1 ?_
        exact S_iret (pc := 22) ⟨rfl, rfl⟩ rfl rfl dL_addMethod_22
      · refine X_if (fun n1 => ?_) (fun n1 => ?_)
        · subst n1
          refine X_catch (hp := 23) [(0, 16, 19, 13)] (0, 16, 23, 15) [(0, 16, 27, 17)] (by decide) rfl (X_pass 1 (by decide) w681 X_pass0) (by decide) (by decide) rfl w682 (fun qx => ?_)
          refine Z_astore (pc := 23) (lv' := [some (.ref r0), some (.int v1), some (.int v2), some (.int v3), some (.int v4), some (.int v5), some (.ref r6), some (.ref qx)]) dL_addMethod_23 rfl rfl rfl ?_
          refine S_iconst (pc := 25) (v := (nI 2)) dL_addMethod_25 kI_2 ?_
          exact S_iret (pc := 26) ⟨rfl, rfl⟩ rfl rfl dL_addMethod_26
        · refine X_if (fun n2 => ?_) (fun n2 => ?_)
          · subst n2
            refine X_catch (hp := 27) [(0, 16, 19, 13), (0, 16, 23, 15)] (0, 16, 27, 17) [] (by decide) rfl (X_pass 1 (by decide) w681 (X_pass 2 (by decide) w682 X_pass0)) (by decide) (by decide) rfl w683 (fun qx => ?_)
            refine Z_astore (pc := 27) (lv' := [some (.ref r0), some (.int v1), some (.int v2), some (.int v3), some (.int v4), some (.int v5), some (.ref r6), some (.ref qx)]) dL_addMethod_27 rfl rfl rfl ?_
            refine S_iconst (pc := 29) (v := (nI 3)) dL_addMethod_29 kI_3 ?_
            exact S_iret (pc := 30) ⟨rfl, rfl⟩ rfl rfl dL_addMethod_30
          · exact X_none
theorem ktL_addMethod (r0 : Nat) (v1 : Int32) (v2 : Int32) (v3 : Int32) (v4 : Int32) (v5 : Int32) (r6 : Nat) : CtH mL_addMethod rI [.ref r0, .int v1, .int v2, .int v3, .int v4, .int v5, .ref r6] (fL_addMethod r0 v1 v2 v3 v4 v5 r6) := CtH.of (z := 1) pn_L rfl rfl (sL_addMethod r0 v1 v2 v3 v4 v5 r6)
def mL_classInfo : MI := (yL_classInfo, cL_classInfo, 6, (some .int), { frames := 10, cells := 3, slots := 18, locals := 178 }, [(0, 12, 15, 13), (0, 12, 19, 15)])
def fL_classInfo  (r0 : Nat) (v1 : Int32) (v2 : Int32) (v3 : Int32) (r4 : Nat) : AH → Option (Int32 × AH) := fun h =>
  cv 8 r0 (fX8_classInfo r0 v1 v2 v3) h (fun q h => match q with
  | Sum.inr x_2 =>
    (stJ r4 (nI 0) (Int32.toInt64 x_2) h).bind fun h =>
    some ((nI 0), h)
  | Sum.inl e =>
    if e = 1 then (
      some ((nI 1), h))
    else
    if e = 2 then (
      some ((nI 2), h))
    else
    none)
theorem sL_classInfo  (r0 : Nat) (v1 : Int32) (v2 : Int32) (v3 : Int32) (r4 : Nat) : Sm mL_classInfo rI 0 0 0 [some (.ref r0), some (.int v1), some (.int v2), some (.int v3), some (.ref r4), none] [] (fL_classInfo r0 v1 v2 v3 r4) := by
  unfold fL_classInfo
  refine S_aload (pc := 0) dL_classInfo_0 rfl ?_
  refine S_iconst (pc := 2) (v := (nI 0)) dL_classInfo_2 kI_0 ?_
  refine S_aload_n (pc := 3) dL_classInfo_3 rfl ?_
  refine S_iload_n (pc := 4) dL_classInfo_4 rfl ?_
  refine S_iload_n (pc := 5) dL_classInfo_5 rfl ?_
  refine S_iload_n (pc := 6) dL_classInfo_6 rfl ?_
  refine S_callV (pc := 7) (st := [.int (nI 0), .ref r4]) (ktX8_classInfo r0 v1 v2 v3) mw_X8_classInfo mv_X8_classInfo w875 (RO.mk rfl rfl rfl rfl) rfl rfl rfl dL_classInfo_7 (fun q v hv => ?_) (fun q k hk => ?_)
  · cases q with
    | inl k => cases hv
    | inr x_2 =>
      cases hv
      refine S_i2l (pc := 10) dL_classInfo_10 ?_
      refine S_stJ (pc := 11) dL_classInfo_11 ?_
      refine S_goto (pc := 12) (tgt := 23) dL_classInfo_12 (by decide) ?_
      refine S_iconst (pc := 23) (v := (nI 0)) dL_classInfo_23 kI_0 ?_
      exact S_iret (pc := 24) ⟨rfl, rfl⟩ rfl rfl dL_classInfo_24
  · cases q with
    | inr x => cases hk
    | inl e =>
      cases hk
      refine X_if (fun n0 => ?_) (fun n0 => ?_)
      · subst n0
        refine X_catch (hp := 15) [] (0, 12, 15, 13) [(0, 12, 19, 15)] (by decide) rfl X_pass0 (by decide) (by decide) rfl w681 (fun qx => ?_)
        refine Z_astore (pc := 15) (lv' := [some (.ref r0), some (.int v1), some (.int v2), some (.int v3), some (.ref r4), some (.ref qx)]) dL_classInfo_15 rfl rfl rfl ?_
        refine S_iconst (pc := 17) (v := (nI 1)) dL_classInfo_17 kI_1 ?_
        exact S_iret (pc := 18) ⟨rfl, rfl⟩ rfl rfl dL_classInfo_18
      · refine X_if (fun n1 => ?_) (fun n1 => ?_)
        · subst n1
          refine X_catch (hp := 19) [(0, 12, 15, 13)] (0, 12, 19, 15) [] (by decide) rfl (X_pass 1 (by decide) w681 X_pass0) (by decide) (by decide) rfl w682 (fun qx => ?_)
          refine Z_astore (pc := 19) (lv' := [some (.ref r0), some (.int v1), some (.int v2), some (.int v3), some (.ref r4), some (.ref qx)]) dL_classInfo_19 rfl rfl rfl ?_
          refine S_iconst (pc := 21) (v := (nI 2)) dL_classInfo_21 kI_2 ?_
          exact S_iret (pc := 22) ⟨rfl, rfl⟩ rfl rfl dL_classInfo_22
        · exact X_none
theorem ktL_classInfo (r0 : Nat) (v1 : Int32) (v2 : Int32) (v3 : Int32) (r4 : Nat) : CtH mL_classInfo rI [.ref r0, .int v1, .int v2, .int v3, .ref r4] (fL_classInfo r0 v1 v2 v3 r4) := CtH.of (z := 1) pn_L rfl rfl (sL_classInfo r0 v1 v2 v3 r4)
def mL_clientInfo : MI := (yL_clientInfo, cL_clientInfo, 5, (some .int), { frames := 9, cells := 3, slots := 18, locals := 155 }, [(0, 10, 13, 13), (0, 10, 17, 15)])
def fL_clientInfo  (r0 : Nat) (v1 : Int32) (v2 : Int32) (r3 : Nat) : AH → Option (Int32 × AH) := fun h =>
  cv 8 r0 (fX8_clientInfo r0 v1 v2) h (fun q h => match q with
  | Sum.inr x_2 =>
    (stJ r3 (nI 0) (Int32.toInt64 x_2) h).bind fun h =>
    some ((nI 0), h)
  | Sum.inl e =>
    if e = 1 then (
      some ((nI 1), h))
    else
    if e = 2 then (
      some ((nI 2), h))
    else
    none)
theorem sL_clientInfo  (r0 : Nat) (v1 : Int32) (v2 : Int32) (r3 : Nat) : Sm mL_clientInfo rI 0 0 0 [some (.ref r0), some (.int v1), some (.int v2), some (.ref r3), none] [] (fL_clientInfo r0 v1 v2 r3) := by
  unfold fL_clientInfo
  refine S_aload_n (pc := 0) dL_clientInfo_0 rfl ?_
  refine S_iconst (pc := 1) (v := (nI 0)) dL_clientInfo_1 kI_0 ?_
  refine S_aload_n (pc := 2) dL_clientInfo_2 rfl ?_
  refine S_iload_n (pc := 3) dL_clientInfo_3 rfl ?_
  refine S_iload_n (pc := 4) dL_clientInfo_4 rfl ?_
  refine S_callV (pc := 5) (st := [.int (nI 0), .ref r3]) (ktX8_clientInfo r0 v1 v2) mw_X8_clientInfo mv_X8_clientInfo w1094 (RO.mk rfl rfl rfl rfl) rfl rfl rfl dL_clientInfo_5 (fun q v hv => ?_) (fun q k hk => ?_)
  · cases q with
    | inl k => cases hv
    | inr x_2 =>
      cases hv
      refine S_i2l (pc := 8) dL_clientInfo_8 ?_
      refine S_stJ (pc := 9) dL_clientInfo_9 ?_
      refine S_goto (pc := 10) (tgt := 21) dL_clientInfo_10 (by decide) ?_
      refine S_iconst (pc := 21) (v := (nI 0)) dL_clientInfo_21 kI_0 ?_
      exact S_iret (pc := 22) ⟨rfl, rfl⟩ rfl rfl dL_clientInfo_22
  · cases q with
    | inr x => cases hk
    | inl e =>
      cases hk
      refine X_if (fun n0 => ?_) (fun n0 => ?_)
      · subst n0
        refine X_catch (hp := 13) [] (0, 10, 13, 13) [(0, 10, 17, 15)] (by decide) rfl X_pass0 (by decide) (by decide) rfl w681 (fun qx => ?_)
        refine Z_astore (pc := 13) (lv' := [some (.ref r0), some (.int v1), some (.int v2), some (.ref r3), some (.ref qx)]) dL_clientInfo_13 rfl rfl rfl ?_
        refine S_iconst (pc := 15) (v := (nI 1)) dL_clientInfo_15 kI_1 ?_
        exact S_iret (pc := 16) ⟨rfl, rfl⟩ rfl rfl dL_clientInfo_16
      · refine X_if (fun n1 => ?_) (fun n1 => ?_)
        · subst n1
          refine X_catch (hp := 17) [(0, 10, 13, 13)] (0, 10, 17, 15) [] (by decide) rfl (X_pass 1 (by decide) w681 X_pass0) (by decide) (by decide) rfl w682 (fun qx => ?_)
          refine Z_astore (pc := 17) (lv' := [some (.ref r0), some (.int v1), some (.int v2), some (.ref r3), some (.ref qx)]) dL_clientInfo_17 rfl rfl rfl ?_
          refine S_iconst (pc := 19) (v := (nI 2)) dL_clientInfo_19 kI_2 ?_
          exact S_iret (pc := 20) ⟨rfl, rfl⟩ rfl rfl dL_clientInfo_20
        · exact X_none
theorem ktL_clientInfo (r0 : Nat) (v1 : Int32) (v2 : Int32) (r3 : Nat) : CtH mL_clientInfo rI [.ref r0, .int v1, .int v2, .ref r3] (fL_clientInfo r0 v1 v2 r3) := CtH.of (z := 1) pn_L rfl rfl (sL_clientInfo r0 v1 v2 r3)
def mL_compile : MI := (yL_compile, cL_compile, 5, (some .int), { frames := 9, cells := 3, slots := 18, locals := 155 }, [(0, 10, 13, 13)])
def fL_compile  (r0 : Nat) (v1 : Int32) (v2 : Int32) (r3 : Nat) : AH → Option (Int32 × AH) := fun h =>
  cv 8 r0 (fX8_compile r0 v1 v2) h (fun q h => match q with
  | Sum.inr x_2 =>
    (stJ r3 (nI 0) (Int32.toInt64 x_2) h).bind fun h =>
    some ((nI 0), h)
  | Sum.inl e =>
    if e = 1 then (
      some ((nI 1), h))
    else
    none)
theorem sL_compile  (r0 : Nat) (v1 : Int32) (v2 : Int32) (r3 : Nat) : Sm mL_compile rI 0 0 0 [some (.ref r0), some (.int v1), some (.int v2), some (.ref r3), none] [] (fL_compile r0 v1 v2 r3) := by
  unfold fL_compile
  refine S_aload_n (pc := 0) dL_compile_0 rfl ?_
  refine S_iconst (pc := 1) (v := (nI 0)) dL_compile_1 kI_0 ?_
  refine S_aload_n (pc := 2) dL_compile_2 rfl ?_
  refine S_iload_n (pc := 3) dL_compile_3 rfl ?_
  refine S_iload_n (pc := 4) dL_compile_4 rfl ?_
  refine S_callV (pc := 5) (st := [.int (nI 0), .ref r3]) (ktX8_compile r0 v1 v2) mw_X8_compile mv_X8_compile w1101 (RO.mk rfl rfl rfl rfl) rfl rfl rfl dL_compile_5 (fun q v hv => ?_) (fun q k hk => ?_)
  · cases q with
    | inl k => cases hv
    | inr x_2 =>
      cases hv
      refine S_i2l (pc := 8) dL_compile_8 ?_
      refine S_stJ (pc := 9) dL_compile_9 ?_
      refine S_goto (pc := 10) (tgt := 17) dL_compile_10 (by decide) ?_
      refine S_iconst (pc := 17) (v := (nI 0)) dL_compile_17 kI_0 ?_
      exact S_iret (pc := 18) ⟨rfl, rfl⟩ rfl rfl dL_compile_18
  · cases q with
    | inr x => cases hk
    | inl e =>
      cases hk
      refine X_if (fun n0 => ?_) (fun n0 => ?_)
      · subst n0
        refine X_catch (hp := 13) [] (0, 10, 13, 13) [] (by decide) rfl X_pass0 (by decide) (by decide) rfl w681 (fun qx => ?_)
        refine Z_astore (pc := 13) (lv' := [some (.ref r0), some (.int v1), some (.int v2), some (.ref r3), some (.ref qx)]) dL_compile_13 rfl rfl rfl ?_
        refine S_iconst (pc := 15) (v := (nI 1)) dL_compile_15 kI_1 ?_
        exact S_iret (pc := 16) ⟨rfl, rfl⟩ rfl rfl dL_compile_16
      · exact X_none
theorem ktL_compile (r0 : Nat) (v1 : Int32) (v2 : Int32) (r3 : Nat) : CtH mL_compile rI [.ref r0, .int v1, .int v2, .ref r3] (fL_compile r0 v1 v2 r3) := CtH.of (z := 1) pn_L rfl rfl (sL_compile r0 v1 v2 r3)
def mL_count : MI := (yL_count, cL_count, 4, (some .int), { frames := 7, cells := 3, slots := 18, locals := 174 }, [(0, 9, 12, 15)])
def fL_count  (r0 : Nat) (v1 : Int32) (r2 : Nat) : AH → Option (Int32 × AH) := fun h =>
  cv 8 r0 (fX8_count r0 v1) h (fun q h => match q with
  | Sum.inr x_2 =>
    (stJ r2 (nI 0) (Int32.toInt64 x_2) h).bind fun h =>
    some ((nI 0), h)
  | Sum.inl e =>
    if e = 2 then (
      some ((nI 1), h))
    else
    none)
theorem sL_count  (r0 : Nat) (v1 : Int32) (r2 : Nat) : Sm mL_count rI 0 0 0 [some (.ref r0), some (.int v1), some (.ref r2), none] [] (fL_count r0 v1 r2) := by
  unfold fL_count
  refine S_aload_n (pc := 0) dL_count_0 rfl ?_
  refine S_iconst (pc := 1) (v := (nI 0)) dL_count_1 kI_0 ?_
  refine S_aload_n (pc := 2) dL_count_2 rfl ?_
  refine S_iload_n (pc := 3) dL_count_3 rfl ?_
  refine S_callV (pc := 4) (st := [.int (nI 0), .ref r2]) (ktX8_count r0 v1) mw_X8_count mv_X8_count w1129 (RO.mk rfl rfl rfl rfl) rfl rfl rfl dL_count_4 (fun q v hv => ?_) (fun q k hk => ?_)
  · cases q with
    | inl k => cases hv
    | inr x_2 =>
      cases hv
      refine S_i2l (pc := 7) dL_count_7 ?_
      refine S_stJ (pc := 8) dL_count_8 ?_
      refine S_goto (pc := 9) (tgt := 15) dL_count_9 (by decide) ?_
      refine S_iconst (pc := 15) (v := (nI 0)) dL_count_15 kI_0 ?_
      exact S_iret (pc := 16) ⟨rfl, rfl⟩ rfl rfl dL_count_16
  · cases q with
    | inr x => cases hk
    | inl e =>
      cases hk
      refine X_if (fun n0 => ?_) (fun n0 => ?_)
      · subst n0
        refine X_catch (hp := 12) [] (0, 9, 12, 15) [] (by decide) rfl X_pass0 (by decide) (by decide) rfl w682 (fun qx => ?_)
        refine Z_astore_n (pc := 12) (lv' := [some (.ref r0), some (.int v1), some (.ref r2), some (.ref qx)]) dL_count_12 rfl rfl rfl ?_
        refine S_iconst (pc := 13) (v := (nI 1)) dL_count_13 kI_1 ?_
        exact S_iret (pc := 14) ⟨rfl, rfl⟩ rfl rfl dL_count_14
      · exact X_none
theorem ktL_count (r0 : Nat) (v1 : Int32) (r2 : Nat) : CtH mL_count rI [.ref r0, .int v1, .ref r2] (fL_count r0 v1 r2) := CtH.of (z := 1) pn_L rfl rfl (sL_count r0 v1 r2)
def mL_define : MI := (yL_define, cL_define, 8, (some .int), { frames := 9, cells := 3, slots := 18, locals := 157 }, [(0, 16, 19, 13), (0, 16, 23, 15), (0, 16, 27, 17)])
def fL_define  (r0 : Nat) (v1 : Int32) (v2 : Int32) (v3 : Int32) (v4 : Int32) (v5 : Int32) (r6 : Nat) : AH → Option (Int32 × AH) := fun h =>
  cv 8 r0 (fX8_define r0 v1 v2 v3 v4 v5) h (fun q h => match q with
  | Sum.inr x_2 =>
    (stJ r6 (nI 0) (Int32.toInt64 x_2) h).bind fun h =>
    some ((nI 0), h)
  | Sum.inl e =>
    if e = 1 then (
      some ((nI 1), h))
    else
    if e = 2 then (
      some ((nI 2), h))
    else
    if e = 3 then (
      some ((nI 3), h))
    else
    none)
theorem sL_define  (r0 : Nat) (v1 : Int32) (v2 : Int32) (v3 : Int32) (v4 : Int32) (v5 : Int32) (r6 : Nat) : Sm mL_define rI 0 0 0 [some (.ref r0), some (.int v1), some (.int v2), some (.int v3), some (.int v4), some (.int v5), some (.ref r6), none] [] (fL_define r0 v1 v2 v3 v4 v5 r6) := by
  unfold fL_define
  refine S_aload (pc := 0) dL_define_0 rfl ?_
  refine S_iconst (pc := 2) (v := (nI 0)) dL_define_2 kI_0 ?_
  refine S_aload_n (pc := 3) dL_define_3 rfl ?_
  refine S_iload_n (pc := 4) dL_define_4 rfl ?_
  refine S_iload_n (pc := 5) dL_define_5 rfl ?_
  refine S_iload_n (pc := 6) dL_define_6 rfl ?_
  refine S_iload (pc := 7) dL_define_7 rfl ?_
  refine S_iload (pc := 9) dL_define_9 rfl ?_
  refine S_callV (pc := 11) (st := [.int (nI 0), .ref r6]) (ktX8_define r0 v1 v2 v3 v4 v5) mw_X8_define mv_X8_define w684 (RO.mk rfl rfl rfl rfl) rfl rfl rfl dL_define_11 (fun q v hv => ?_) (fun q k hk => ?_)
  · cases q with
    | inl k => cases hv
    | inr x_2 =>
      cases hv
      refine S_i2l (pc := 14) dL_define_14 ?_
      refine S_stJ (pc := 15) dL_define_15 ?_
      refine S_goto (pc := 16) (tgt := 31) dL_define_16 (by decide) ?_
      refine S_iconst (pc := 31) (v := (nI 0)) dL_define_31 kI_0 ?_
      exact S_iret (pc := 32) ⟨rfl, rfl⟩ rfl rfl dL_define_32
  · cases q with
    | inr x => cases hk
    | inl e =>
      cases hk
      refine X_if (fun n0 => ?_) (fun n0 => ?_)
      · subst n0
        refine X_catch (hp := 19) [] (0, 16, 19, 13) [(0, 16, 23, 15), (0, 16, 27, 17)] (by decide) rfl X_pass0 (by decide) (by decide) rfl w681 (fun qx => ?_)
        refine Z_astore (pc := 19) (lv' := [some (.ref r0), some (.int v1), some (.int v2), some (.int v3), some (.int v4), some (.int v5), some (.ref r6), some (.ref qx)]) dL_define_19 rfl rfl rfl ?_
        refine S_iconst (pc := 21) (v := (nI 1)) dL_define_21 kI_1 ?_
        exact S_iret (pc := 22) ⟨rfl, rfl⟩ rfl rfl dL_define_22
      · refine X_if (fun n1 => ?_) (fun n1 => ?_)
        · subst n1
          refine X_catch (hp := 23) [(0, 16, 19, 13)] (0, 16, 23, 15) [(0, 16, 27, 17)] (by decide) rfl (X_pass 1 (by decide) w681 X_pass0) (by decide) (by decide) rfl w682 (fun qx => ?_)
          refine Z_astore (pc := 23) (lv' := [some (.ref r0), some (.int v1), some (.int v2), some (.int v3), some (.int v4), some (.int v5), some (.ref r6), some (.ref qx)]) dL_define_23 rfl rfl rfl ?_
          refine S_iconst (pc := 25) (v := (nI 2)) dL_define_25 kI_2 ?_
          exact S_iret (pc := 26) ⟨rfl, rfl⟩ rfl rfl dL_define_26
        · refine X_if (fun n2 => ?_) (fun n2 => ?_)
          · subst n2
            refine X_catch (hp := 27) [(0, 16, 19, 13), (0, 16, 23, 15)] (0, 16, 27, 17) [] (by decide) rfl (X_pass 1 (by decide) w681 (X_pass 2 (by decide) w682 X_pass0)) (by decide) (by decide) rfl w683 (fun qx => ?_)
            refine Z_astore (pc := 27) (lv' := [some (.ref r0), some (.int v1), some (.int v2), some (.int v3), some (.int v4), some (.int v5), some (.ref r6), some (.ref qx)]) dL_define_27 rfl rfl rfl ?_
            refine S_iconst (pc := 29) (v := (nI 3)) dL_define_29 kI_3 ?_
            exact S_iret (pc := 30) ⟨rfl, rfl⟩ rfl rfl dL_define_30
          · exact X_none
theorem ktL_define (r0 : Nat) (v1 : Int32) (v2 : Int32) (v3 : Int32) (v4 : Int32) (v5 : Int32) (r6 : Nat) : CtH mL_define rI [.ref r0, .int v1, .int v2, .int v3, .int v4, .int v5, .ref r6] (fL_define r0 v1 v2 v3 v4 v5 r6) := CtH.of (z := 1) pn_L rfl rfl (sL_define r0 v1 v2 v3 v4 v5 r6)
def mL_draft : MI := (yL_draft, cL_draft, 7, (some .int), { frames := 7, cells := 3, slots := 18, locals := 115 }, [(0, 14, 17, 15)])
def fL_draft  (r0 : Nat) (v1 : Int32) (v2 : Int32) (v3 : Int32) (v4 : Int32) (r5 : Nat) : AH → Option (Int32 × AH) := fun h =>
  cv 8 r0 (fX8_draft r0 v1 v2 v3 v4) h (fun q h => match q with
  | Sum.inr x_2 =>
    (stJ r5 (nI 0) (Int32.toInt64 x_2) h).bind fun h =>
    some ((nI 0), h)
  | Sum.inl e =>
    if e = 2 then (
      some ((nI 1), h))
    else
    none)
theorem sL_draft  (r0 : Nat) (v1 : Int32) (v2 : Int32) (v3 : Int32) (v4 : Int32) (r5 : Nat) : Sm mL_draft rI 0 0 0 [some (.ref r0), some (.int v1), some (.int v2), some (.int v3), some (.int v4), some (.ref r5), none] [] (fL_draft r0 v1 v2 v3 v4 r5) := by
  unfold fL_draft
  refine S_aload (pc := 0) dL_draft_0 rfl ?_
  refine S_iconst (pc := 2) (v := (nI 0)) dL_draft_2 kI_0 ?_
  refine S_aload_n (pc := 3) dL_draft_3 rfl ?_
  refine S_iload_n (pc := 4) dL_draft_4 rfl ?_
  refine S_iload_n (pc := 5) dL_draft_5 rfl ?_
  refine S_iload_n (pc := 6) dL_draft_6 rfl ?_
  refine S_iload (pc := 7) dL_draft_7 rfl ?_
  refine S_callV (pc := 9) (st := [.int (nI 0), .ref r5]) (ktX8_draft r0 v1 v2 v3 v4) mw_X8_draft mv_X8_draft w886 (RO.mk rfl rfl rfl rfl) rfl rfl rfl dL_draft_9 (fun q v hv => ?_) (fun q k hk => ?_)
  · cases q with
    | inl k => cases hv
    | inr x_2 =>
      cases hv
      refine S_i2l (pc := 12) dL_draft_12 ?_
      refine S_stJ (pc := 13) dL_draft_13 ?_
      refine S_goto (pc := 14) (tgt := 21) dL_draft_14 (by decide) ?_
      refine S_iconst (pc := 21) (v := (nI 0)) dL_draft_21 kI_0 ?_
      exact S_iret (pc := 22) ⟨rfl, rfl⟩ rfl rfl dL_draft_22
  · cases q with
    | inr x => cases hk
    | inl e =>
      cases hk
      refine X_if (fun n0 => ?_) (fun n0 => ?_)
      · subst n0
        refine X_catch (hp := 17) [] (0, 14, 17, 15) [] (by decide) rfl X_pass0 (by decide) (by decide) rfl w682 (fun qx => ?_)
        refine Z_astore (pc := 17) (lv' := [some (.ref r0), some (.int v1), some (.int v2), some (.int v3), some (.int v4), some (.ref r5), some (.ref qx)]) dL_draft_17 rfl rfl rfl ?_
        refine S_iconst (pc := 19) (v := (nI 1)) dL_draft_19 kI_1 ?_
        exact S_iret (pc := 20) ⟨rfl, rfl⟩ rfl rfl dL_draft_20
      · exact X_none
theorem ktL_draft (r0 : Nat) (v1 : Int32) (v2 : Int32) (v3 : Int32) (v4 : Int32) (r5 : Nat) : CtH mL_draft rI [.ref r0, .int v1, .int v2, .int v3, .int v4, .ref r5] (fL_draft r0 v1 v2 v3 v4 r5) := CtH.of (z := 1) pn_L rfl rfl (sL_draft r0 v1 v2 v3 v4 r5)
def mL_exists : MI := (yL_exists, cL_exists, 5, (some .int), { frames := 9, cells := 3, slots := 18, locals := 154 }, [(0, 17, 20, 13)])
def fL_exists_16  (s0 : Nat) (s1 : Int32) (s2 : Int64) : AH → Option (Int32 × AH) := fun h =>
  (stJ s0 s1 s2 h).bind fun h =>
  some ((nI 0), h)
def fL_exists  (r0 : Nat) (v1 : Int32) (v2 : Int32) (r3 : Nat) : AH → Option (Int32 × AH) := fun h =>
  cv 8 r0 (fX8_exists r0 v1 v2) h (fun q h => match q with
  | Sum.inr x_3 =>
    if x_3 = 0 then (
      fL_exists_16 r3 (nI 0) (0 : Int64) h)
    else
    fL_exists_16 r3 (nI 0) (1 : Int64) h
  | Sum.inl e =>
    if e = 1 then (
      some ((nI 1), h))
    else
    none)
theorem sL_exists_16  (s0 : Nat) (s1 : Int32) (s2 : Int64) : Sm mL_exists rI 2 12 16 [none, none, none, none, none] [.long s2, .int s1, .ref s0] (fL_exists_16 s0 s1 s2) := by
  unfold fL_exists_16
  refine S_stJ (pc := 16) dL_exists_16 ?_
  refine S_goto (pc := 17) (tgt := 24) dL_exists_17 (by decide) ?_
  refine S_iconst (pc := 24) (v := (nI 0)) dL_exists_24 kI_0 ?_
  exact S_iret (pc := 25) ⟨rfl, rfl⟩ rfl rfl dL_exists_25
theorem sL_exists  (r0 : Nat) (v1 : Int32) (v2 : Int32) (r3 : Nat) : Sm mL_exists rI 0 0 0 [some (.ref r0), some (.int v1), some (.int v2), some (.ref r3), none] [] (fL_exists r0 v1 v2 r3) := by
  unfold fL_exists
  refine S_aload_n (pc := 0) dL_exists_0 rfl ?_
  refine S_iconst (pc := 1) (v := (nI 0)) dL_exists_1 kI_0 ?_
  refine S_aload_n (pc := 2) dL_exists_2 rfl ?_
  refine S_iload_n (pc := 3) dL_exists_3 rfl ?_
  refine S_iload_n (pc := 4) dL_exists_4 rfl ?_
  refine S_callV (pc := 5) (st := [.int (nI 0), .ref r3]) (ktX8_exists r0 v1 v2) mw_X8_exists mv_X8_exists w867 (RO.mk rfl rfl rfl rfl) rfl rfl rfl dL_exists_5 (fun q v hv => ?_) (fun q k hk => ?_)
  · cases q with
    | inl k => cases hv
    | inr x_3 =>
      cases hv
      refine S_ifeq (pc := 8) (tgt := 15) dL_exists_8 (by decide) ?_ ?_
      · refine S_lconst (pc := 15) (v := (0 : Int64)) dL_exists_15 rfl ?_
        exact (S_lv (lv0 := [none, none, none, none, none]) trivial (sL_exists_16 r3 (nI 0) (0 : Int64)))
      · refine S_lconst (pc := 11) (v := (1 : Int64)) dL_exists_11 rfl ?_
        refine S_goto (pc := 12) (tgt := 16) dL_exists_12 (by decide) ?_
        exact (S_lv (lv0 := [none, none, none, none, none]) trivial (sL_exists_16 r3 (nI 0) (1 : Int64)))
  · cases q with
    | inr x => cases hk
    | inl e =>
      cases hk
      refine X_if (fun n0 => ?_) (fun n0 => ?_)
      · subst n0
        refine X_catch (hp := 20) [] (0, 17, 20, 13) [] (by decide) rfl X_pass0 (by decide) (by decide) rfl w681 (fun qx => ?_)
        refine Z_astore (pc := 20) (lv' := [some (.ref r0), some (.int v1), some (.int v2), some (.ref r3), some (.ref qx)]) dL_exists_20 rfl rfl rfl ?_
        refine S_iconst (pc := 22) (v := (nI 1)) dL_exists_22 kI_1 ?_
        exact S_iret (pc := 23) ⟨rfl, rfl⟩ rfl rfl dL_exists_23
      · exact X_none
theorem ktL_exists (r0 : Nat) (v1 : Int32) (v2 : Int32) (r3 : Nat) : CtH mL_exists rI [.ref r0, .int v1, .int v2, .ref r3] (fL_exists r0 v1 v2 r3) := CtH.of (z := 1) pn_L rfl rfl (sL_exists r0 v1 v2 r3)
def mL_field : MI := (yL_field, cL_field, 6, (some .int), { frames := 10, cells := 3, slots := 18, locals := 178 }, [(0, 12, 15, 13), (0, 12, 19, 15)])
def fL_field  (r0 : Nat) (v1 : Int32) (v2 : Int32) (v3 : Int32) (r4 : Nat) : AH → Option (Int32 × AH) := fun h =>
  cv 8 r0 (fX8_field r0 v1 v2 v3) h (fun q h => match q with
  | Sum.inr x_2 =>
    (stJ r4 (nI 0) (Int32.toInt64 x_2) h).bind fun h =>
    some ((nI 0), h)
  | Sum.inl e =>
    if e = 1 then (
      some ((nI 1), h))
    else
    if e = 2 then (
      some ((nI 2), h))
    else
    none)
theorem sL_field  (r0 : Nat) (v1 : Int32) (v2 : Int32) (v3 : Int32) (r4 : Nat) : Sm mL_field rI 0 0 0 [some (.ref r0), some (.int v1), some (.int v2), some (.int v3), some (.ref r4), none] [] (fL_field r0 v1 v2 v3 r4) := by
  unfold fL_field
  refine S_aload (pc := 0) dL_field_0 rfl ?_
  refine S_iconst (pc := 2) (v := (nI 0)) dL_field_2 kI_0 ?_
  refine S_aload_n (pc := 3) dL_field_3 rfl ?_
  refine S_iload_n (pc := 4) dL_field_4 rfl ?_
  refine S_iload_n (pc := 5) dL_field_5 rfl ?_
  refine S_iload_n (pc := 6) dL_field_6 rfl ?_
  refine S_callV (pc := 7) (st := [.int (nI 0), .ref r4]) (ktX8_field r0 v1 v2 v3) mw_X8_field mv_X8_field w1015 (RO.mk rfl rfl rfl rfl) rfl rfl rfl dL_field_7 (fun q v hv => ?_) (fun q k hk => ?_)
  · cases q with
    | inl k => cases hv
    | inr x_2 =>
      cases hv
      refine S_i2l (pc := 10) dL_field_10 ?_
      refine S_stJ (pc := 11) dL_field_11 ?_
      refine S_goto (pc := 12) (tgt := 23) dL_field_12 (by decide) ?_
      refine S_iconst (pc := 23) (v := (nI 0)) dL_field_23 kI_0 ?_
      exact S_iret (pc := 24) ⟨rfl, rfl⟩ rfl rfl dL_field_24
  · cases q with
    | inr x => cases hk
    | inl e =>
      cases hk
      refine X_if (fun n0 => ?_) (fun n0 => ?_)
      · subst n0
        refine X_catch (hp := 15) [] (0, 12, 15, 13) [(0, 12, 19, 15)] (by decide) rfl X_pass0 (by decide) (by decide) rfl w681 (fun qx => ?_)
        refine Z_astore (pc := 15) (lv' := [some (.ref r0), some (.int v1), some (.int v2), some (.int v3), some (.ref r4), some (.ref qx)]) dL_field_15 rfl rfl rfl ?_
        refine S_iconst (pc := 17) (v := (nI 1)) dL_field_17 kI_1 ?_
        exact S_iret (pc := 18) ⟨rfl, rfl⟩ rfl rfl dL_field_18
      · refine X_if (fun n1 => ?_) (fun n1 => ?_)
        · subst n1
          refine X_catch (hp := 19) [(0, 12, 15, 13)] (0, 12, 19, 15) [] (by decide) rfl (X_pass 1 (by decide) w681 X_pass0) (by decide) (by decide) rfl w682 (fun qx => ?_)
          refine Z_astore (pc := 19) (lv' := [some (.ref r0), some (.int v1), some (.int v2), some (.int v3), some (.ref r4), some (.ref qx)]) dL_field_19 rfl rfl rfl ?_
          refine S_iconst (pc := 21) (v := (nI 2)) dL_field_21 kI_2 ?_
          exact S_iret (pc := 22) ⟨rfl, rfl⟩ rfl rfl dL_field_22
        · exact X_none
theorem ktL_field (r0 : Nat) (v1 : Int32) (v2 : Int32) (v3 : Int32) (r4 : Nat) : CtH mL_field rI [.ref r0, .int v1, .int v2, .int v3, .ref r4] (fL_field r0 v1 v2 v3 r4) := CtH.of (z := 1) pn_L rfl rfl (sL_field r0 v1 v2 v3 r4)
def mL_fits : MI := (yL_fits, cL_fits, 6, (some .int), { frames := 9, cells := 3, slots := 18, locals := 155 }, [(0, 19, 22, 13), (0, 19, 26, 15)])
def fL_fits_18  (s0 : Nat) (s1 : Int32) (s2 : Int64) : AH → Option (Int32 × AH) := fun h =>
  (stJ s0 s1 s2 h).bind fun h =>
  some ((nI 0), h)
def fL_fits  (r0 : Nat) (v1 : Int32) (v2 : Int32) (v3 : Int32) (r4 : Nat) : AH → Option (Int32 × AH) := fun h =>
  cv 8 r0 (fX8_fits r0 v1 v2 v3) h (fun q h => match q with
  | Sum.inr x_3 =>
    if x_3 = 0 then (
      fL_fits_18 r4 (nI 0) (0 : Int64) h)
    else
    fL_fits_18 r4 (nI 0) (1 : Int64) h
  | Sum.inl e =>
    if e = 1 then (
      some ((nI 1), h))
    else
    if e = 2 then (
      some ((nI 2), h))
    else
    none)
theorem sL_fits_18  (s0 : Nat) (s1 : Int32) (s2 : Int64) : Sm mL_fits rI 2 12 18 [none, none, none, none, none, none] [.long s2, .int s1, .ref s0] (fL_fits_18 s0 s1 s2) := by
  unfold fL_fits_18
  refine S_stJ (pc := 18) dL_fits_18 ?_
  refine S_goto (pc := 19) (tgt := 30) dL_fits_19 (by decide) ?_
  refine S_iconst (pc := 30) (v := (nI 0)) dL_fits_30 kI_0 ?_
  exact S_iret (pc := 31) ⟨rfl, rfl⟩ rfl rfl dL_fits_31
theorem sL_fits  (r0 : Nat) (v1 : Int32) (v2 : Int32) (v3 : Int32) (r4 : Nat) : Sm mL_fits rI 0 0 0 [some (.ref r0), some (.int v1), some (.int v2), some (.int v3), some (.ref r4), none] [] (fL_fits r0 v1 v2 v3 r4) := by
  unfold fL_fits
  refine S_aload (pc := 0) dL_fits_0 rfl ?_
  refine S_iconst (pc := 2) (v := (nI 0)) dL_fits_2 kI_0 ?_
  refine S_aload_n (pc := 3) dL_fits_3 rfl ?_
  refine S_iload_n (pc := 4) dL_fits_4 rfl ?_
  refine S_iload_n (pc := 5) dL_fits_5 rfl ?_
  refine S_iload_n (pc := 6) dL_fits_6 rfl ?_
  refine S_callV (pc := 7) (st := [.int (nI 0), .ref r4]) (ktX8_fits r0 v1 v2 v3) mw_X8_fits mv_X8_fits w1007 (RO.mk rfl rfl rfl rfl) rfl rfl rfl dL_fits_7 (fun q v hv => ?_) (fun q k hk => ?_)
  · cases q with
    | inl k => cases hv
    | inr x_3 =>
      cases hv
      refine S_ifeq (pc := 10) (tgt := 17) dL_fits_10 (by decide) ?_ ?_
      · refine S_lconst (pc := 17) (v := (0 : Int64)) dL_fits_17 rfl ?_
        exact (S_lv (lv0 := [none, none, none, none, none, none]) trivial (sL_fits_18 r4 (nI 0) (0 : Int64)))
      · refine S_lconst (pc := 13) (v := (1 : Int64)) dL_fits_13 rfl ?_
        refine S_goto (pc := 14) (tgt := 18) dL_fits_14 (by decide) ?_
        exact (S_lv (lv0 := [none, none, none, none, none, none]) trivial (sL_fits_18 r4 (nI 0) (1 : Int64)))
  · cases q with
    | inr x => cases hk
    | inl e =>
      cases hk
      refine X_if (fun n0 => ?_) (fun n0 => ?_)
      · subst n0
        refine X_catch (hp := 22) [] (0, 19, 22, 13) [(0, 19, 26, 15)] (by decide) rfl X_pass0 (by decide) (by decide) rfl w681 (fun qx => ?_)
        refine Z_astore (pc := 22) (lv' := [some (.ref r0), some (.int v1), some (.int v2), some (.int v3), some (.ref r4), some (.ref qx)]) dL_fits_22 rfl rfl rfl ?_
        refine S_iconst (pc := 24) (v := (nI 1)) dL_fits_24 kI_1 ?_
        exact S_iret (pc := 25) ⟨rfl, rfl⟩ rfl rfl dL_fits_25
      · refine X_if (fun n1 => ?_) (fun n1 => ?_)
        · subst n1
          refine X_catch (hp := 26) [(0, 19, 22, 13)] (0, 19, 26, 15) [] (by decide) rfl (X_pass 1 (by decide) w681 X_pass0) (by decide) (by decide) rfl w682 (fun qx => ?_)
          refine Z_astore (pc := 26) (lv' := [some (.ref r0), some (.int v1), some (.int v2), some (.int v3), some (.ref r4), some (.ref qx)]) dL_fits_26 rfl rfl rfl ?_
          refine S_iconst (pc := 28) (v := (nI 2)) dL_fits_28 kI_2 ?_
          exact S_iret (pc := 29) ⟨rfl, rfl⟩ rfl rfl dL_fits_29
        · exact X_none
theorem ktL_fits (r0 : Nat) (v1 : Int32) (v2 : Int32) (v3 : Int32) (r4 : Nat) : CtH mL_fits rI [.ref r0, .int v1, .int v2, .int v3, .ref r4] (fL_fits r0 v1 v2 v3 r4) := CtH.of (z := 1) pn_L rfl rfl (sL_fits r0 v1 v2 v3 r4)
def mL_removeClass : MI := (yL_removeClass, cL_removeClass, 5, (some .int), { frames := 10, cells := 3, slots := 18, locals := 177 }, [(0, 10, 13, 13), (0, 10, 17, 17)])
def fL_removeClass  (r0 : Nat) (v1 : Int32) (v2 : Int32) (r3 : Nat) : AH → Option (Int32 × AH) := fun h =>
  cv 8 r0 (fX8_removeClass r0 v1 v2) h (fun q h => match q with
  | Sum.inr x_2 =>
    (stJ r3 (nI 0) (Int32.toInt64 x_2) h).bind fun h =>
    some ((nI 0), h)
  | Sum.inl e =>
    if e = 1 then (
      some ((nI 1), h))
    else
    if e = 3 then (
      some ((nI 2), h))
    else
    none)
theorem sL_removeClass  (r0 : Nat) (v1 : Int32) (v2 : Int32) (r3 : Nat) : Sm mL_removeClass rI 0 0 0 [some (.ref r0), some (.int v1), some (.int v2), some (.ref r3), none] [] (fL_removeClass r0 v1 v2 r3) := by
  unfold fL_removeClass
  refine S_aload_n (pc := 0) dL_removeClass_0 rfl ?_
  refine S_iconst (pc := 1) (v := (nI 0)) dL_removeClass_1 kI_0 ?_
  refine S_aload_n (pc := 2) dL_removeClass_2 rfl ?_
  refine S_iload_n (pc := 3) dL_removeClass_3 rfl ?_
  refine S_iload_n (pc := 4) dL_removeClass_4 rfl ?_
  refine S_callV (pc := 5) (st := [.int (nI 0), .ref r3]) (ktX8_removeClass r0 v1 v2) mw_X8_removeClass mv_X8_removeClass w815 (RO.mk rfl rfl rfl rfl) rfl rfl rfl dL_removeClass_5 (fun q v hv => ?_) (fun q k hk => ?_)
  · cases q with
    | inl k => cases hv
    | inr x_2 =>
      cases hv
      refine S_i2l (pc := 8) dL_removeClass_8 ?_
      refine S_stJ (pc := 9) dL_removeClass_9 ?_
      refine S_goto (pc := 10) (tgt := 21) dL_removeClass_10 (by decide) ?_
      refine S_iconst (pc := 21) (v := (nI 0)) dL_removeClass_21 kI_0 ?_
      exact S_iret (pc := 22) ⟨rfl, rfl⟩ rfl rfl dL_removeClass_22
  · cases q with
    | inr x => cases hk
    | inl e =>
      cases hk
      refine X_if (fun n0 => ?_) (fun n0 => ?_)
      · subst n0
        refine X_catch (hp := 13) [] (0, 10, 13, 13) [(0, 10, 17, 17)] (by decide) rfl X_pass0 (by decide) (by decide) rfl w681 (fun qx => ?_)
        refine Z_astore (pc := 13) (lv' := [some (.ref r0), some (.int v1), some (.int v2), some (.ref r3), some (.ref qx)]) dL_removeClass_13 rfl rfl rfl ?_
        refine S_iconst (pc := 15) (v := (nI 1)) dL_removeClass_15 kI_1 ?_
        exact S_iret (pc := 16) ⟨rfl, rfl⟩ rfl rfl dL_removeClass_16
      · refine X_if (fun n1 => ?_) (fun n1 => ?_)
        · subst n1
          refine X_catch (hp := 17) [(0, 10, 13, 13)] (0, 10, 17, 17) [] (by decide) rfl (X_pass 1 (by decide) w681 X_pass0) (by decide) (by decide) rfl w683 (fun qx => ?_)
          refine Z_astore (pc := 17) (lv' := [some (.ref r0), some (.int v1), some (.int v2), some (.ref r3), some (.ref qx)]) dL_removeClass_17 rfl rfl rfl ?_
          refine S_iconst (pc := 19) (v := (nI 2)) dL_removeClass_19 kI_2 ?_
          exact S_iret (pc := 20) ⟨rfl, rfl⟩ rfl rfl dL_removeClass_20
        · exact X_none
theorem ktL_removeClass (r0 : Nat) (v1 : Int32) (v2 : Int32) (r3 : Nat) : CtH mL_removeClass rI [.ref r0, .int v1, .int v2, .ref r3] (fL_removeClass r0 v1 v2 r3) := CtH.of (z := 1) pn_L rfl rfl (sL_removeClass r0 v1 v2 r3)
def mL_setClass : MI := (yL_setClass, cL_setClass, 7, (some .int), { frames := 10, cells := 3, slots := 18, locals := 180 }, [(0, 14, 17, 13), (0, 14, 21, 15), (0, 14, 25, 17)])
def fL_setClass  (r0 : Nat) (v1 : Int32) (v2 : Int32) (v3 : Int32) (v4 : Int32) (r5 : Nat) : AH → Option (Int32 × AH) := fun h =>
  cv 8 r0 (fX8_setClass r0 v1 v2 v3 v4) h (fun q h => match q with
  | Sum.inr x_2 =>
    (stJ r5 (nI 0) (Int32.toInt64 x_2) h).bind fun h =>
    some ((nI 0), h)
  | Sum.inl e =>
    if e = 1 then (
      some ((nI 1), h))
    else
    if e = 2 then (
      some ((nI 2), h))
    else
    if e = 3 then (
      some ((nI 3), h))
    else
    none)
theorem sL_setClass  (r0 : Nat) (v1 : Int32) (v2 : Int32) (v3 : Int32) (v4 : Int32) (r5 : Nat) : Sm mL_setClass rI 0 0 0 [some (.ref r0), some (.int v1), some (.int v2), some (.int v3), some (.int v4), some (.ref r5), none] [] (fL_setClass r0 v1 v2 v3 v4 r5) := by
  unfold fL_setClass
  refine S_aload (pc := 0) dL_setClass_0 rfl ?_
  refine S_iconst (pc := 2) (v := (nI 0)) dL_setClass_2 kI_0 ?_
  refine S_aload_n (pc := 3) dL_setClass_3 rfl ?_
  refine S_iload_n (pc := 4) dL_setClass_4 rfl ?_
  refine S_iload_n (pc := 5) dL_setClass_5 rfl ?_
  refine S_iload_n (pc := 6) dL_setClass_6 rfl ?_
  refine S_iload (pc := 7) dL_setClass_7 rfl ?_
  refine S_callV (pc := 9) (st := [.int (nI 0), .ref r5]) (ktX8_setClass r0 v1 v2 v3 v4) mw_X8_setClass mv_X8_setClass w846 (RO.mk rfl rfl rfl rfl) rfl rfl rfl dL_setClass_9 (fun q v hv => ?_) (fun q k hk => ?_)
  · cases q with
    | inl k => cases hv
    | inr x_2 =>
      cases hv
      refine S_i2l (pc := 12) dL_setClass_12 ?_
      refine S_stJ (pc := 13) dL_setClass_13 ?_
      refine S_goto (pc := 14) (tgt := 29) dL_setClass_14 (by decide) ?_
      refine S_iconst (pc := 29) (v := (nI 0)) dL_setClass_29 kI_0 ?_
      exact S_iret (pc := 30) ⟨rfl, rfl⟩ rfl rfl dL_setClass_30
  · cases q with
    | inr x => cases hk
    | inl e =>
      cases hk
      refine X_if (fun n0 => ?_) (fun n0 => ?_)
      · subst n0
        refine X_catch (hp := 17) [] (0, 14, 17, 13) [(0, 14, 21, 15), (0, 14, 25, 17)] (by decide) rfl X_pass0 (by decide) (by decide) rfl w681 (fun qx => ?_)
        refine Z_astore (pc := 17) (lv' := [some (.ref r0), some (.int v1), some (.int v2), some (.int v3), some (.int v4), some (.ref r5), some (.ref qx)]) dL_setClass_17 rfl rfl rfl ?_
        refine S_iconst (pc := 19) (v := (nI 1)) dL_setClass_19 kI_1 ?_
        exact S_iret (pc := 20) ⟨rfl, rfl⟩ rfl rfl dL_setClass_20
      · refine X_if (fun n1 => ?_) (fun n1 => ?_)
        · subst n1
          refine X_catch (hp := 21) [(0, 14, 17, 13)] (0, 14, 21, 15) [(0, 14, 25, 17)] (by decide) rfl (X_pass 1 (by decide) w681 X_pass0) (by decide) (by decide) rfl w682 (fun qx => ?_)
          refine Z_astore (pc := 21) (lv' := [some (.ref r0), some (.int v1), some (.int v2), some (.int v3), some (.int v4), some (.ref r5), some (.ref qx)]) dL_setClass_21 rfl rfl rfl ?_
          refine S_iconst (pc := 23) (v := (nI 2)) dL_setClass_23 kI_2 ?_
          exact S_iret (pc := 24) ⟨rfl, rfl⟩ rfl rfl dL_setClass_24
        · refine X_if (fun n2 => ?_) (fun n2 => ?_)
          · subst n2
            refine X_catch (hp := 25) [(0, 14, 17, 13), (0, 14, 21, 15)] (0, 14, 25, 17) [] (by decide) rfl (X_pass 1 (by decide) w681 (X_pass 2 (by decide) w682 X_pass0)) (by decide) (by decide) rfl w683 (fun qx => ?_)
            refine Z_astore (pc := 25) (lv' := [some (.ref r0), some (.int v1), some (.int v2), some (.int v3), some (.int v4), some (.ref r5), some (.ref qx)]) dL_setClass_25 rfl rfl rfl ?_
            refine S_iconst (pc := 27) (v := (nI 3)) dL_setClass_27 kI_3 ?_
            exact S_iret (pc := 28) ⟨rfl, rfl⟩ rfl rfl dL_setClass_28
          · exact X_none
theorem ktL_setClass (r0 : Nat) (v1 : Int32) (v2 : Int32) (v3 : Int32) (v4 : Int32) (r5 : Nat) : CtH mL_setClass rI [.ref r0, .int v1, .int v2, .int v3, .int v4, .ref r5] (fL_setClass r0 v1 v2 v3 v4 r5) := CtH.of (z := 1) pn_L rfl rfl (sL_setClass r0 v1 v2 v3 v4 r5)
def mL_removeMember : MI := (yL_removeMember, cL_removeMember, 5, (some .int), { frames := 10, cells := 3, slots := 18, locals := 177 }, [(0, 10, 13, 13)])
def fL_removeMember  (r0 : Nat) (v1 : Int32) (v2 : Int32) (r3 : Nat) : AH → Option (Int32 × AH) := fun h =>
  cv 8 r0 (fX8_removeMember r0 v1 v2) h (fun q h => match q with
  | Sum.inr x_2 =>
    (stJ r3 (nI 0) (Int32.toInt64 x_2) h).bind fun h =>
    some ((nI 0), h)
  | Sum.inl e =>
    if e = 1 then (
      some ((nI 1), h))
    else
    none)
theorem sL_removeMember  (r0 : Nat) (v1 : Int32) (v2 : Int32) (r3 : Nat) : Sm mL_removeMember rI 0 0 0 [some (.ref r0), some (.int v1), some (.int v2), some (.ref r3), none] [] (fL_removeMember r0 v1 v2 r3) := by
  unfold fL_removeMember
  refine S_aload_n (pc := 0) dL_removeMember_0 rfl ?_
  refine S_iconst (pc := 1) (v := (nI 0)) dL_removeMember_1 kI_0 ?_
  refine S_aload_n (pc := 2) dL_removeMember_2 rfl ?_
  refine S_iload_n (pc := 3) dL_removeMember_3 rfl ?_
  refine S_iload_n (pc := 4) dL_removeMember_4 rfl ?_
  refine S_callV (pc := 5) (st := [.int (nI 0), .ref r3]) (ktX8_removeMember r0 v1 v2) mw_X8_removeMember mv_X8_removeMember w944 (RO.mk rfl rfl rfl rfl) rfl rfl rfl dL_removeMember_5 (fun q v hv => ?_) (fun q k hk => ?_)
  · cases q with
    | inl k => cases hv
    | inr x_2 =>
      cases hv
      refine S_i2l (pc := 8) dL_removeMember_8 ?_
      refine S_stJ (pc := 9) dL_removeMember_9 ?_
      refine S_goto (pc := 10) (tgt := 17) dL_removeMember_10 (by decide) ?_
      refine S_iconst (pc := 17) (v := (nI 0)) dL_removeMember_17 kI_0 ?_
      exact S_iret (pc := 18) ⟨rfl, rfl⟩ rfl rfl dL_removeMember_18
  · cases q with
    | inr x => cases hk
    | inl e =>
      cases hk
      refine X_if (fun n0 => ?_) (fun n0 => ?_)
      · subst n0
        refine X_catch (hp := 13) [] (0, 10, 13, 13) [] (by decide) rfl X_pass0 (by decide) (by decide) rfl w681 (fun qx => ?_)
        refine Z_astore (pc := 13) (lv' := [some (.ref r0), some (.int v1), some (.int v2), some (.ref r3), some (.ref qx)]) dL_removeMember_13 rfl rfl rfl ?_
        refine S_iconst (pc := 15) (v := (nI 1)) dL_removeMember_15 kI_1 ?_
        exact S_iret (pc := 16) ⟨rfl, rfl⟩ rfl rfl dL_removeMember_16
      · exact X_none
theorem ktL_removeMember (r0 : Nat) (v1 : Int32) (v2 : Int32) (r3 : Nat) : CtH mL_removeMember rI [.ref r0, .int v1, .int v2, .ref r3] (fL_removeMember r0 v1 v2 r3) := CtH.of (z := 1) pn_L rfl rfl (sL_removeMember r0 v1 v2 r3)
def mL_setMember : MI := (yL_setMember, cL_setMember, 7, (some .int), { frames := 10, cells := 3, slots := 18, locals := 180 }, [(0, 14, 17, 13), (0, 14, 21, 15)])
def fL_setMember  (r0 : Nat) (v1 : Int32) (v2 : Int32) (v3 : Int32) (v4 : Int32) (r5 : Nat) : AH → Option (Int32 × AH) := fun h =>
  cv 8 r0 (fX8_setMember r0 v1 v2 v3 v4) h (fun q h => match q with
  | Sum.inr x_2 =>
    (stJ r5 (nI 0) (Int32.toInt64 x_2) h).bind fun h =>
    some ((nI 0), h)
  | Sum.inl e =>
    if e = 1 then (
      some ((nI 1), h))
    else
    if e = 2 then (
      some ((nI 2), h))
    else
    none)
theorem sL_setMember  (r0 : Nat) (v1 : Int32) (v2 : Int32) (v3 : Int32) (v4 : Int32) (r5 : Nat) : Sm mL_setMember rI 0 0 0 [some (.ref r0), some (.int v1), some (.int v2), some (.int v3), some (.int v4), some (.ref r5), none] [] (fL_setMember r0 v1 v2 v3 v4 r5) := by
  unfold fL_setMember
  refine S_aload (pc := 0) dL_setMember_0 rfl ?_
  refine S_iconst (pc := 2) (v := (nI 0)) dL_setMember_2 kI_0 ?_
  refine S_aload_n (pc := 3) dL_setMember_3 rfl ?_
  refine S_iload_n (pc := 4) dL_setMember_4 rfl ?_
  refine S_iload_n (pc := 5) dL_setMember_5 rfl ?_
  refine S_iload_n (pc := 6) dL_setMember_6 rfl ?_
  refine S_iload (pc := 7) dL_setMember_7 rfl ?_
  refine S_callV (pc := 9) (st := [.int (nI 0), .ref r5]) (ktX8_setMember r0 v1 v2 v3 v4) mw_X8_setMember mv_X8_setMember w964 (RO.mk rfl rfl rfl rfl) rfl rfl rfl dL_setMember_9 (fun q v hv => ?_) (fun q k hk => ?_)
  · cases q with
    | inl k => cases hv
    | inr x_2 =>
      cases hv
      refine S_i2l (pc := 12) dL_setMember_12 ?_
      refine S_stJ (pc := 13) dL_setMember_13 ?_
      refine S_goto (pc := 14) (tgt := 25) dL_setMember_14 (by decide) ?_
      refine S_iconst (pc := 25) (v := (nI 0)) dL_setMember_25 kI_0 ?_
      exact S_iret (pc := 26) ⟨rfl, rfl⟩ rfl rfl dL_setMember_26
  · cases q with
    | inr x => cases hk
    | inl e =>
      cases hk
      refine X_if (fun n0 => ?_) (fun n0 => ?_)
      · subst n0
        refine X_catch (hp := 17) [] (0, 14, 17, 13) [(0, 14, 21, 15)] (by decide) rfl X_pass0 (by decide) (by decide) rfl w681 (fun qx => ?_)
        refine Z_astore (pc := 17) (lv' := [some (.ref r0), some (.int v1), some (.int v2), some (.int v3), some (.int v4), some (.ref r5), some (.ref qx)]) dL_setMember_17 rfl rfl rfl ?_
        refine S_iconst (pc := 19) (v := (nI 1)) dL_setMember_19 kI_1 ?_
        exact S_iret (pc := 20) ⟨rfl, rfl⟩ rfl rfl dL_setMember_20
      · refine X_if (fun n1 => ?_) (fun n1 => ?_)
        · subst n1
          refine X_catch (hp := 21) [(0, 14, 17, 13)] (0, 14, 21, 15) [] (by decide) rfl (X_pass 1 (by decide) w681 X_pass0) (by decide) (by decide) rfl w682 (fun qx => ?_)
          refine Z_astore (pc := 21) (lv' := [some (.ref r0), some (.int v1), some (.int v2), some (.int v3), some (.int v4), some (.ref r5), some (.ref qx)]) dL_setMember_21 rfl rfl rfl ?_
          refine S_iconst (pc := 23) (v := (nI 2)) dL_setMember_23 kI_2 ?_
          exact S_iret (pc := 24) ⟨rfl, rfl⟩ rfl rfl dL_setMember_24
        · exact X_none
theorem ktL_setMember (r0 : Nat) (v1 : Int32) (v2 : Int32) (v3 : Int32) (v4 : Int32) (r5 : Nat) : CtH mL_setMember rI [.ref r0, .int v1, .int v2, .int v3, .int v4, .ref r5] (fL_setMember r0 v1 v2 v3 v4 r5) := CtH.of (z := 1) pn_L rfl rfl (sL_setMember r0 v1 v2 v3 v4 r5)
def mL_moveMember : MI := (yL_moveMember, cL_moveMember, 6, (some .int), { frames := 10, cells := 3, slots := 18, locals := 181 }, [(0, 12, 15, 13), (0, 12, 19, 15), (0, 12, 23, 17)])
def fL_moveMember  (r0 : Nat) (v1 : Int32) (v2 : Int32) (v3 : Int32) (r4 : Nat) : AH → Option (Int32 × AH) := fun h =>
  cv 8 r0 (fX8_moveMember r0 v1 v2 v3) h (fun q h => match q with
  | Sum.inr x_2 =>
    (stJ r4 (nI 0) (Int32.toInt64 x_2) h).bind fun h =>
    some ((nI 0), h)
  | Sum.inl e =>
    if e = 1 then (
      some ((nI 1), h))
    else
    if e = 2 then (
      some ((nI 2), h))
    else
    if e = 3 then (
      some ((nI 3), h))
    else
    none)
theorem sL_moveMember  (r0 : Nat) (v1 : Int32) (v2 : Int32) (v3 : Int32) (r4 : Nat) : Sm mL_moveMember rI 0 0 0 [some (.ref r0), some (.int v1), some (.int v2), some (.int v3), some (.ref r4), none] [] (fL_moveMember r0 v1 v2 v3 r4) := by
  unfold fL_moveMember
  refine S_aload (pc := 0) dL_moveMember_0 rfl ?_
  refine S_iconst (pc := 2) (v := (nI 0)) dL_moveMember_2 kI_0 ?_
  refine S_aload_n (pc := 3) dL_moveMember_3 rfl ?_
  refine S_iload_n (pc := 4) dL_moveMember_4 rfl ?_
  refine S_iload_n (pc := 5) dL_moveMember_5 rfl ?_
  refine S_iload_n (pc := 6) dL_moveMember_6 rfl ?_
  refine S_callV (pc := 7) (st := [.int (nI 0), .ref r4]) (ktX8_moveMember r0 v1 v2 v3) mw_X8_moveMember mv_X8_moveMember w978 (RO.mk rfl rfl rfl rfl) rfl rfl rfl dL_moveMember_7 (fun q v hv => ?_) (fun q k hk => ?_)
  · cases q with
    | inl k => cases hv
    | inr x_2 =>
      cases hv
      refine S_i2l (pc := 10) dL_moveMember_10 ?_
      refine S_stJ (pc := 11) dL_moveMember_11 ?_
      refine S_goto (pc := 12) (tgt := 27) dL_moveMember_12 (by decide) ?_
      refine S_iconst (pc := 27) (v := (nI 0)) dL_moveMember_27 kI_0 ?_
      exact S_iret (pc := 28) ⟨rfl, rfl⟩ rfl rfl dL_moveMember_28
  · cases q with
    | inr x => cases hk
    | inl e =>
      cases hk
      refine X_if (fun n0 => ?_) (fun n0 => ?_)
      · subst n0
        refine X_catch (hp := 15) [] (0, 12, 15, 13) [(0, 12, 19, 15), (0, 12, 23, 17)] (by decide) rfl X_pass0 (by decide) (by decide) rfl w681 (fun qx => ?_)
        refine Z_astore (pc := 15) (lv' := [some (.ref r0), some (.int v1), some (.int v2), some (.int v3), some (.ref r4), some (.ref qx)]) dL_moveMember_15 rfl rfl rfl ?_
        refine S_iconst (pc := 17) (v := (nI 1)) dL_moveMember_17 kI_1 ?_
        exact S_iret (pc := 18) ⟨rfl, rfl⟩ rfl rfl dL_moveMember_18
      · refine X_if (fun n1 => ?_) (fun n1 => ?_)
        · subst n1
          refine X_catch (hp := 19) [(0, 12, 15, 13)] (0, 12, 19, 15) [(0, 12, 23, 17)] (by decide) rfl (X_pass 1 (by decide) w681 X_pass0) (by decide) (by decide) rfl w682 (fun qx => ?_)
          refine Z_astore (pc := 19) (lv' := [some (.ref r0), some (.int v1), some (.int v2), some (.int v3), some (.ref r4), some (.ref qx)]) dL_moveMember_19 rfl rfl rfl ?_
          refine S_iconst (pc := 21) (v := (nI 2)) dL_moveMember_21 kI_2 ?_
          exact S_iret (pc := 22) ⟨rfl, rfl⟩ rfl rfl dL_moveMember_22
        · refine X_if (fun n2 => ?_) (fun n2 => ?_)
          · subst n2
            refine X_catch (hp := 23) [(0, 12, 15, 13), (0, 12, 19, 15)] (0, 12, 23, 17) [] (by decide) rfl (X_pass 1 (by decide) w681 (X_pass 2 (by decide) w682 X_pass0)) (by decide) (by decide) rfl w683 (fun qx => ?_)
            refine Z_astore (pc := 23) (lv' := [some (.ref r0), some (.int v1), some (.int v2), some (.int v3), some (.ref r4), some (.ref qx)]) dL_moveMember_23 rfl rfl rfl ?_
            refine S_iconst (pc := 25) (v := (nI 3)) dL_moveMember_25 kI_3 ?_
            exact S_iret (pc := 26) ⟨rfl, rfl⟩ rfl rfl dL_moveMember_26
          · exact X_none
theorem ktL_moveMember (r0 : Nat) (v1 : Int32) (v2 : Int32) (v3 : Int32) (r4 : Nat) : CtH mL_moveMember rI [.ref r0, .int v1, .int v2, .int v3, .ref r4] (fL_moveMember r0 v1 v2 v3 r4) := CtH.of (z := 1) pn_L rfl rfl (sL_moveMember r0 v1 v2 v3 r4)
def mL_members : MI := (yL_members, cL_members, 4, (some .int), { frames := 9, cells := 3, slots := 18, locals := 152 }, [(0, 9, 12, 13)])
def fL_members  (r0 : Nat) (v1 : Int32) (r2 : Nat) : AH → Option (Int32 × AH) := fun h =>
  cv 8 r0 (fX8_members r0 v1) h (fun q h => match q with
  | Sum.inr x_2 =>
    (stJ r2 (nI 0) (Int32.toInt64 x_2) h).bind fun h =>
    some ((nI 0), h)
  | Sum.inl e =>
    if e = 1 then (
      some ((nI 1), h))
    else
    none)
theorem sL_members  (r0 : Nat) (v1 : Int32) (r2 : Nat) : Sm mL_members rI 0 0 0 [some (.ref r0), some (.int v1), some (.ref r2), none] [] (fL_members r0 v1 r2) := by
  unfold fL_members
  refine S_aload_n (pc := 0) dL_members_0 rfl ?_
  refine S_iconst (pc := 1) (v := (nI 0)) dL_members_1 kI_0 ?_
  refine S_aload_n (pc := 2) dL_members_2 rfl ?_
  refine S_iload_n (pc := 3) dL_members_3 rfl ?_
  refine S_callV (pc := 4) (st := [.int (nI 0), .ref r2]) (ktX8_members r0 v1) mw_X8_members mv_X8_members w993 (RO.mk rfl rfl rfl rfl) rfl rfl rfl dL_members_4 (fun q v hv => ?_) (fun q k hk => ?_)
  · cases q with
    | inl k => cases hv
    | inr x_2 =>
      cases hv
      refine S_i2l (pc := 7) dL_members_7 ?_
      refine S_stJ (pc := 8) dL_members_8 ?_
      refine S_goto (pc := 9) (tgt := 15) dL_members_9 (by decide) ?_
      refine S_iconst (pc := 15) (v := (nI 0)) dL_members_15 kI_0 ?_
      exact S_iret (pc := 16) ⟨rfl, rfl⟩ rfl rfl dL_members_16
  · cases q with
    | inr x => cases hk
    | inl e =>
      cases hk
      refine X_if (fun n0 => ?_) (fun n0 => ?_)
      · subst n0
        refine X_catch (hp := 12) [] (0, 9, 12, 13) [] (by decide) rfl X_pass0 (by decide) (by decide) rfl w681 (fun qx => ?_)
        refine Z_astore_n (pc := 12) (lv' := [some (.ref r0), some (.int v1), some (.ref r2), some (.ref qx)]) dL_members_12 rfl rfl rfl ?_
        refine S_iconst (pc := 13) (v := (nI 1)) dL_members_13 kI_1 ?_
        exact S_iret (pc := 14) ⟨rfl, rfl⟩ rfl rfl dL_members_14
      · exact X_none
theorem ktL_members (r0 : Nat) (v1 : Int32) (r2 : Nat) : CtH mL_members rI [.ref r0, .int v1, .ref r2] (fL_members r0 v1 r2) := CtH.of (z := 1) pn_L rfl rfl (sL_members r0 v1 r2)
def mL_memberInfo : MI := (yL_memberInfo, cL_memberInfo, 6, (some .int), { frames := 10, cells := 3, slots := 18, locals := 178 }, [(0, 12, 15, 13), (0, 12, 19, 15)])
def fL_memberInfo  (r0 : Nat) (v1 : Int32) (v2 : Int32) (v3 : Int32) (r4 : Nat) : AH → Option (Int32 × AH) := fun h =>
  cv 8 r0 (fX8_memberInfo r0 v1 v2 v3) h (fun q h => match q with
  | Sum.inr x_2 =>
    (stJ r4 (nI 0) (Int32.toInt64 x_2) h).bind fun h =>
    some ((nI 0), h)
  | Sum.inl e =>
    if e = 1 then (
      some ((nI 1), h))
    else
    if e = 2 then (
      some ((nI 2), h))
    else
    none)
theorem sL_memberInfo  (r0 : Nat) (v1 : Int32) (v2 : Int32) (v3 : Int32) (r4 : Nat) : Sm mL_memberInfo rI 0 0 0 [some (.ref r0), some (.int v1), some (.int v2), some (.int v3), some (.ref r4), none] [] (fL_memberInfo r0 v1 v2 v3 r4) := by
  unfold fL_memberInfo
  refine S_aload (pc := 0) dL_memberInfo_0 rfl ?_
  refine S_iconst (pc := 2) (v := (nI 0)) dL_memberInfo_2 kI_0 ?_
  refine S_aload_n (pc := 3) dL_memberInfo_3 rfl ?_
  refine S_iload_n (pc := 4) dL_memberInfo_4 rfl ?_
  refine S_iload_n (pc := 5) dL_memberInfo_5 rfl ?_
  refine S_iload_n (pc := 6) dL_memberInfo_6 rfl ?_
  refine S_callV (pc := 7) (st := [.int (nI 0), .ref r4]) (ktX8_memberInfo r0 v1 v2 v3) mw_X8_memberInfo mv_X8_memberInfo w1000 (RO.mk rfl rfl rfl rfl) rfl rfl rfl dL_memberInfo_7 (fun q v hv => ?_) (fun q k hk => ?_)
  · cases q with
    | inl k => cases hv
    | inr x_2 =>
      cases hv
      refine S_i2l (pc := 10) dL_memberInfo_10 ?_
      refine S_stJ (pc := 11) dL_memberInfo_11 ?_
      refine S_goto (pc := 12) (tgt := 23) dL_memberInfo_12 (by decide) ?_
      refine S_iconst (pc := 23) (v := (nI 0)) dL_memberInfo_23 kI_0 ?_
      exact S_iret (pc := 24) ⟨rfl, rfl⟩ rfl rfl dL_memberInfo_24
  · cases q with
    | inr x => cases hk
    | inl e =>
      cases hk
      refine X_if (fun n0 => ?_) (fun n0 => ?_)
      · subst n0
        refine X_catch (hp := 15) [] (0, 12, 15, 13) [(0, 12, 19, 15)] (by decide) rfl X_pass0 (by decide) (by decide) rfl w681 (fun qx => ?_)
        refine Z_astore (pc := 15) (lv' := [some (.ref r0), some (.int v1), some (.int v2), some (.int v3), some (.ref r4), some (.ref qx)]) dL_memberInfo_15 rfl rfl rfl ?_
        refine S_iconst (pc := 17) (v := (nI 1)) dL_memberInfo_17 kI_1 ?_
        exact S_iret (pc := 18) ⟨rfl, rfl⟩ rfl rfl dL_memberInfo_18
      · refine X_if (fun n1 => ?_) (fun n1 => ?_)
        · subst n1
          refine X_catch (hp := 19) [(0, 12, 15, 13)] (0, 12, 19, 15) [] (by decide) rfl (X_pass 1 (by decide) w681 X_pass0) (by decide) (by decide) rfl w682 (fun qx => ?_)
          refine Z_astore (pc := 19) (lv' := [some (.ref r0), some (.int v1), some (.int v2), some (.int v3), some (.ref r4), some (.ref qx)]) dL_memberInfo_19 rfl rfl rfl ?_
          refine S_iconst (pc := 21) (v := (nI 2)) dL_memberInfo_21 kI_2 ?_
          exact S_iret (pc := 22) ⟨rfl, rfl⟩ rfl rfl dL_memberInfo_22
        · exact X_none
theorem ktL_memberInfo (r0 : Nat) (v1 : Int32) (v2 : Int32) (v3 : Int32) (r4 : Nat) : CtH mL_memberInfo rI [.ref r0, .int v1, .int v2, .int v3, .ref r4] (fL_memberInfo r0 v1 v2 v3 r4) := CtH.of (z := 1) pn_L rfl rfl (sL_memberInfo r0 v1 v2 v3 r4)
def mL_method : MI := (yL_method, cL_method, 6, (some .int), { frames := 10, cells := 3, slots := 18, locals := 179 }, [(0, 12, 15, 13), (0, 12, 19, 15)])
def fL_method  (r0 : Nat) (v1 : Int32) (v2 : Int32) (v3 : Int32) (r4 : Nat) : AH → Option (Int32 × AH) := fun h =>
  cv 8 r0 (fX8_method r0 v1 v2 v3) h (fun q h => match q with
  | Sum.inr x_2 =>
    (stJ r4 (nI 0) (Int32.toInt64 x_2) h).bind fun h =>
    some ((nI 0), h)
  | Sum.inl e =>
    if e = 1 then (
      some ((nI 1), h))
    else
    if e = 2 then (
      some ((nI 2), h))
    else
    none)
theorem sL_method  (r0 : Nat) (v1 : Int32) (v2 : Int32) (v3 : Int32) (r4 : Nat) : Sm mL_method rI 0 0 0 [some (.ref r0), some (.int v1), some (.int v2), some (.int v3), some (.ref r4), none] [] (fL_method r0 v1 v2 v3 r4) := by
  unfold fL_method
  refine S_aload (pc := 0) dL_method_0 rfl ?_
  refine S_iconst (pc := 2) (v := (nI 0)) dL_method_2 kI_0 ?_
  refine S_aload_n (pc := 3) dL_method_3 rfl ?_
  refine S_iload_n (pc := 4) dL_method_4 rfl ?_
  refine S_iload_n (pc := 5) dL_method_5 rfl ?_
  refine S_iload_n (pc := 6) dL_method_6 rfl ?_
  refine S_callV (pc := 7) (st := [.int (nI 0), .ref r4]) (ktX8_method r0 v1 v2 v3) mw_X8_method mv_X8_method w1027 (RO.mk rfl rfl rfl rfl) rfl rfl rfl dL_method_7 (fun q v hv => ?_) (fun q k hk => ?_)
  · cases q with
    | inl k => cases hv
    | inr x_2 =>
      cases hv
      refine S_i2l (pc := 10) dL_method_10 ?_
      refine S_stJ (pc := 11) dL_method_11 ?_
      refine S_goto (pc := 12) (tgt := 23) dL_method_12 (by decide) ?_
      refine S_iconst (pc := 23) (v := (nI 0)) dL_method_23 kI_0 ?_
      exact S_iret (pc := 24) ⟨rfl, rfl⟩ rfl rfl dL_method_24
  · cases q with
    | inr x => cases hk
    | inl e =>
      cases hk
      refine X_if (fun n0 => ?_) (fun n0 => ?_)
      · subst n0
        refine X_catch (hp := 15) [] (0, 12, 15, 13) [(0, 12, 19, 15)] (by decide) rfl X_pass0 (by decide) (by decide) rfl w681 (fun qx => ?_)
        refine Z_astore (pc := 15) (lv' := [some (.ref r0), some (.int v1), some (.int v2), some (.int v3), some (.ref r4), some (.ref qx)]) dL_method_15 rfl rfl rfl ?_
        refine S_iconst (pc := 17) (v := (nI 1)) dL_method_17 kI_1 ?_
        exact S_iret (pc := 18) ⟨rfl, rfl⟩ rfl rfl dL_method_18
      · refine X_if (fun n1 => ?_) (fun n1 => ?_)
        · subst n1
          refine X_catch (hp := 19) [(0, 12, 15, 13)] (0, 12, 19, 15) [] (by decide) rfl (X_pass 1 (by decide) w681 X_pass0) (by decide) (by decide) rfl w682 (fun qx => ?_)
          refine Z_astore (pc := 19) (lv' := [some (.ref r0), some (.int v1), some (.int v2), some (.int v3), some (.ref r4), some (.ref qx)]) dL_method_19 rfl rfl rfl ?_
          refine S_iconst (pc := 21) (v := (nI 2)) dL_method_21 kI_2 ?_
          exact S_iret (pc := 22) ⟨rfl, rfl⟩ rfl rfl dL_method_22
        · exact X_none
theorem ktL_method (r0 : Nat) (v1 : Int32) (v2 : Int32) (v3 : Int32) (r4 : Nat) : CtH mL_method rI [.ref r0, .int v1, .int v2, .int v3, .ref r4] (fL_method r0 v1 v2 v3 r4) := CtH.of (z := 1) pn_L rfl rfl (sL_method r0 v1 v2 v3 r4)
def mL_selected : MI := (yL_selected, cL_selected, 6, (some .int), { frames := 10, cells := 3, slots := 18, locals := 179 }, [(0, 12, 15, 13), (0, 12, 19, 15)])
def fL_selected  (r0 : Nat) (v1 : Int32) (v2 : Int32) (v3 : Int32) (r4 : Nat) : AH → Option (Int32 × AH) := fun h =>
  cv 8 r0 (fX8_selected r0 v1 v2 v3) h (fun q h => match q with
  | Sum.inr x_2 =>
    (stJ r4 (nI 0) (Int32.toInt64 x_2) h).bind fun h =>
    some ((nI 0), h)
  | Sum.inl e =>
    if e = 1 then (
      some ((nI 1), h))
    else
    if e = 2 then (
      some ((nI 2), h))
    else
    none)
theorem sL_selected  (r0 : Nat) (v1 : Int32) (v2 : Int32) (v3 : Int32) (r4 : Nat) : Sm mL_selected rI 0 0 0 [some (.ref r0), some (.int v1), some (.int v2), some (.int v3), some (.ref r4), none] [] (fL_selected r0 v1 v2 v3 r4) := by
  unfold fL_selected
  refine S_aload (pc := 0) dL_selected_0 rfl ?_
  refine S_iconst (pc := 2) (v := (nI 0)) dL_selected_2 kI_0 ?_
  refine S_aload_n (pc := 3) dL_selected_3 rfl ?_
  refine S_iload_n (pc := 4) dL_selected_4 rfl ?_
  refine S_iload_n (pc := 5) dL_selected_5 rfl ?_
  refine S_iload_n (pc := 6) dL_selected_6 rfl ?_
  refine S_callV (pc := 7) (st := [.int (nI 0), .ref r4]) (ktX8_selected r0 v1 v2 v3) mw_X8_selected mv_X8_selected w1036 (RO.mk rfl rfl rfl rfl) rfl rfl rfl dL_selected_7 (fun q v hv => ?_) (fun q k hk => ?_)
  · cases q with
    | inl k => cases hv
    | inr x_2 =>
      cases hv
      refine S_i2l (pc := 10) dL_selected_10 ?_
      refine S_stJ (pc := 11) dL_selected_11 ?_
      refine S_goto (pc := 12) (tgt := 23) dL_selected_12 (by decide) ?_
      refine S_iconst (pc := 23) (v := (nI 0)) dL_selected_23 kI_0 ?_
      exact S_iret (pc := 24) ⟨rfl, rfl⟩ rfl rfl dL_selected_24
  · cases q with
    | inr x => cases hk
    | inl e =>
      cases hk
      refine X_if (fun n0 => ?_) (fun n0 => ?_)
      · subst n0
        refine X_catch (hp := 15) [] (0, 12, 15, 13) [(0, 12, 19, 15)] (by decide) rfl X_pass0 (by decide) (by decide) rfl w681 (fun qx => ?_)
        refine Z_astore (pc := 15) (lv' := [some (.ref r0), some (.int v1), some (.int v2), some (.int v3), some (.ref r4), some (.ref qx)]) dL_selected_15 rfl rfl rfl ?_
        refine S_iconst (pc := 17) (v := (nI 1)) dL_selected_17 kI_1 ?_
        exact S_iret (pc := 18) ⟨rfl, rfl⟩ rfl rfl dL_selected_18
      · refine X_if (fun n1 => ?_) (fun n1 => ?_)
        · subst n1
          refine X_catch (hp := 19) [(0, 12, 15, 13)] (0, 12, 19, 15) [] (by decide) rfl (X_pass 1 (by decide) w681 X_pass0) (by decide) (by decide) rfl w682 (fun qx => ?_)
          refine Z_astore (pc := 19) (lv' := [some (.ref r0), some (.int v1), some (.int v2), some (.int v3), some (.ref r4), some (.ref qx)]) dL_selected_19 rfl rfl rfl ?_
          refine S_iconst (pc := 21) (v := (nI 2)) dL_selected_21 kI_2 ?_
          exact S_iret (pc := 22) ⟨rfl, rfl⟩ rfl rfl dL_selected_22
        · exact X_none
theorem ktL_selected (r0 : Nat) (v1 : Int32) (v2 : Int32) (v3 : Int32) (r4 : Nat) : CtH mL_selected rI [.ref r0, .int v1, .int v2, .int v3, .ref r4] (fL_selected r0 v1 v2 v3 r4) := CtH.of (z := 1) pn_L rfl rfl (sL_selected r0 v1 v2 v3 r4)
def mL_setBase : MI := (yL_setBase, cL_setBase, 5, (some .int), { frames := 9, cells := 3, slots := 18, locals := 170 }, [(0, 10, 13, 13), (0, 10, 17, 15)])
def fL_setBase  (r0 : Nat) (v1 : Int32) (v2 : Int32) (r3 : Nat) : AH → Option (Int32 × AH) := fun h =>
  cv 8 r0 (fX8_setBase r0 v1 v2) h (fun q h => match q with
  | Sum.inr x_2 =>
    (stJ r3 (nI 0) (Int32.toInt64 x_2) h).bind fun h =>
    some ((nI 0), h)
  | Sum.inl e =>
    if e = 1 then (
      some ((nI 1), h))
    else
    if e = 2 then (
      some ((nI 2), h))
    else
    none)
theorem sL_setBase  (r0 : Nat) (v1 : Int32) (v2 : Int32) (r3 : Nat) : Sm mL_setBase rI 0 0 0 [some (.ref r0), some (.int v1), some (.int v2), some (.ref r3), none] [] (fL_setBase r0 v1 v2 r3) := by
  unfold fL_setBase
  refine S_aload_n (pc := 0) dL_setBase_0 rfl ?_
  refine S_iconst (pc := 1) (v := (nI 0)) dL_setBase_1 kI_0 ?_
  refine S_aload_n (pc := 2) dL_setBase_2 rfl ?_
  refine S_iload_n (pc := 3) dL_setBase_3 rfl ?_
  refine S_iload_n (pc := 4) dL_setBase_4 rfl ?_
  refine S_callV (pc := 5) (st := [.int (nI 0), .ref r3]) (ktX8_setBase r0 v1 v2) mw_X8_setBase mv_X8_setBase w1063 (RO.mk rfl rfl rfl rfl) rfl rfl rfl dL_setBase_5 (fun q v hv => ?_) (fun q k hk => ?_)
  · cases q with
    | inl k => cases hv
    | inr x_2 =>
      cases hv
      refine S_i2l (pc := 8) dL_setBase_8 ?_
      refine S_stJ (pc := 9) dL_setBase_9 ?_
      refine S_goto (pc := 10) (tgt := 21) dL_setBase_10 (by decide) ?_
      refine S_iconst (pc := 21) (v := (nI 0)) dL_setBase_21 kI_0 ?_
      exact S_iret (pc := 22) ⟨rfl, rfl⟩ rfl rfl dL_setBase_22
  · cases q with
    | inr x => cases hk
    | inl e =>
      cases hk
      refine X_if (fun n0 => ?_) (fun n0 => ?_)
      · subst n0
        refine X_catch (hp := 13) [] (0, 10, 13, 13) [(0, 10, 17, 15)] (by decide) rfl X_pass0 (by decide) (by decide) rfl w681 (fun qx => ?_)
        refine Z_astore (pc := 13) (lv' := [some (.ref r0), some (.int v1), some (.int v2), some (.ref r3), some (.ref qx)]) dL_setBase_13 rfl rfl rfl ?_
        refine S_iconst (pc := 15) (v := (nI 1)) dL_setBase_15 kI_1 ?_
        exact S_iret (pc := 16) ⟨rfl, rfl⟩ rfl rfl dL_setBase_16
      · refine X_if (fun n1 => ?_) (fun n1 => ?_)
        · subst n1
          refine X_catch (hp := 17) [(0, 10, 13, 13)] (0, 10, 17, 15) [] (by decide) rfl (X_pass 1 (by decide) w681 X_pass0) (by decide) (by decide) rfl w682 (fun qx => ?_)
          refine Z_astore (pc := 17) (lv' := [some (.ref r0), some (.int v1), some (.int v2), some (.ref r3), some (.ref qx)]) dL_setBase_17 rfl rfl rfl ?_
          refine S_iconst (pc := 19) (v := (nI 2)) dL_setBase_19 kI_2 ?_
          exact S_iret (pc := 20) ⟨rfl, rfl⟩ rfl rfl dL_setBase_20
        · exact X_none
theorem ktL_setBase (r0 : Nat) (v1 : Int32) (v2 : Int32) (r3 : Nat) : CtH mL_setBase rI [.ref r0, .int v1, .int v2, .ref r3] (fL_setBase r0 v1 v2 r3) := CtH.of (z := 1) pn_L rfl rfl (sL_setBase r0 v1 v2 r3)
def mL_removeClient : MI := (yL_removeClient, cL_removeClient, 4, (some .int), { frames := 8, cells := 3, slots := 18, locals := 132 }, [(0, 9, 12, 13)])
def fL_removeClient  (r0 : Nat) (v1 : Int32) (r2 : Nat) : AH → Option (Int32 × AH) := fun h =>
  cv 8 r0 (fX8_removeClient r0 v1) h (fun q h => match q with
  | Sum.inr x_2 =>
    (stJ r2 (nI 0) (Int32.toInt64 x_2) h).bind fun h =>
    some ((nI 0), h)
  | Sum.inl e =>
    if e = 1 then (
      some ((nI 1), h))
    else
    none)
theorem sL_removeClient  (r0 : Nat) (v1 : Int32) (r2 : Nat) : Sm mL_removeClient rI 0 0 0 [some (.ref r0), some (.int v1), some (.ref r2), none] [] (fL_removeClient r0 v1 r2) := by
  unfold fL_removeClient
  refine S_aload_n (pc := 0) dL_removeClient_0 rfl ?_
  refine S_iconst (pc := 1) (v := (nI 0)) dL_removeClient_1 kI_0 ?_
  refine S_aload_n (pc := 2) dL_removeClient_2 rfl ?_
  refine S_iload_n (pc := 3) dL_removeClient_3 rfl ?_
  refine S_callV (pc := 4) (st := [.int (nI 0), .ref r2]) (ktX8_removeClient r0 v1) mw_X8_removeClient mv_X8_removeClient w1083 (RO.mk rfl rfl rfl rfl) rfl rfl rfl dL_removeClient_4 (fun q v hv => ?_) (fun q k hk => ?_)
  · cases q with
    | inl k => cases hv
    | inr x_2 =>
      cases hv
      refine S_i2l (pc := 7) dL_removeClient_7 ?_
      refine S_stJ (pc := 8) dL_removeClient_8 ?_
      refine S_goto (pc := 9) (tgt := 15) dL_removeClient_9 (by decide) ?_
      refine S_iconst (pc := 15) (v := (nI 0)) dL_removeClient_15 kI_0 ?_
      exact S_iret (pc := 16) ⟨rfl, rfl⟩ rfl rfl dL_removeClient_16
  · cases q with
    | inr x => cases hk
    | inl e =>
      cases hk
      refine X_if (fun n0 => ?_) (fun n0 => ?_)
      · subst n0
        refine X_catch (hp := 12) [] (0, 9, 12, 13) [] (by decide) rfl X_pass0 (by decide) (by decide) rfl w681 (fun qx => ?_)
        refine Z_astore_n (pc := 12) (lv' := [some (.ref r0), some (.int v1), some (.ref r2), some (.ref qx)]) dL_removeClient_12 rfl rfl rfl ?_
        refine S_iconst (pc := 13) (v := (nI 1)) dL_removeClient_13 kI_1 ?_
        exact S_iret (pc := 14) ⟨rfl, rfl⟩ rfl rfl dL_removeClient_14
      · exact X_none
theorem ktL_removeClient (r0 : Nat) (v1 : Int32) (r2 : Nat) : CtH mL_removeClient rI [.ref r0, .int v1, .ref r2] (fL_removeClient r0 v1 r2) := CtH.of (z := 1) pn_L rfl rfl (sL_removeClient r0 v1 r2)
def mL_link : MI := (yL_link, cL_link, 5, (some .int), { frames := 9, cells := 3, slots := 18, locals := 155 }, [(0, 10, 13, 13)])
def fL_link  (r0 : Nat) (v1 : Int32) (v2 : Int32) (r3 : Nat) : AH → Option (Int32 × AH) := fun h =>
  cv 8 r0 (fX8_link r0 v1 v2) h (fun q h => match q with
  | Sum.inr x_2 =>
    (stJ r3 (nI 0) (Int32.toInt64 x_2) h).bind fun h =>
    some ((nI 0), h)
  | Sum.inl e =>
    if e = 1 then (
      some ((nI 1), h))
    else
    none)
theorem sL_link  (r0 : Nat) (v1 : Int32) (v2 : Int32) (r3 : Nat) : Sm mL_link rI 0 0 0 [some (.ref r0), some (.int v1), some (.int v2), some (.ref r3), none] [] (fL_link r0 v1 v2 r3) := by
  unfold fL_link
  refine S_aload_n (pc := 0) dL_link_0 rfl ?_
  refine S_iconst (pc := 1) (v := (nI 0)) dL_link_1 kI_0 ?_
  refine S_aload_n (pc := 2) dL_link_2 rfl ?_
  refine S_iload_n (pc := 3) dL_link_3 rfl ?_
  refine S_iload_n (pc := 4) dL_link_4 rfl ?_
  refine S_callV (pc := 5) (st := [.int (nI 0), .ref r3]) (ktX8_link r0 v1 v2) mw_X8_link mv_X8_link w1108 (RO.mk rfl rfl rfl rfl) rfl rfl rfl dL_link_5 (fun q v hv => ?_) (fun q k hk => ?_)
  · cases q with
    | inl k => cases hv
    | inr x_2 =>
      cases hv
      refine S_i2l (pc := 8) dL_link_8 ?_
      refine S_stJ (pc := 9) dL_link_9 ?_
      refine S_goto (pc := 10) (tgt := 17) dL_link_10 (by decide) ?_
      refine S_iconst (pc := 17) (v := (nI 0)) dL_link_17 kI_0 ?_
      exact S_iret (pc := 18) ⟨rfl, rfl⟩ rfl rfl dL_link_18
  · cases q with
    | inr x => cases hk
    | inl e =>
      cases hk
      refine X_if (fun n0 => ?_) (fun n0 => ?_)
      · subst n0
        refine X_catch (hp := 13) [] (0, 10, 13, 13) [] (by decide) rfl X_pass0 (by decide) (by decide) rfl w681 (fun qx => ?_)
        refine Z_astore (pc := 13) (lv' := [some (.ref r0), some (.int v1), some (.int v2), some (.ref r3), some (.ref qx)]) dL_link_13 rfl rfl rfl ?_
        refine S_iconst (pc := 15) (v := (nI 1)) dL_link_15 kI_1 ?_
        exact S_iret (pc := 16) ⟨rfl, rfl⟩ rfl rfl dL_link_16
      · exact X_none
theorem ktL_link (r0 : Nat) (v1 : Int32) (v2 : Int32) (r3 : Nat) : CtH mL_link rI [.ref r0, .int v1, .int v2, .ref r3] (fL_link r0 v1 v2 r3) := CtH.of (z := 1) pn_L rfl rfl (sL_link r0 v1 v2 r3)
def mL_target : MI := (yL_target, cL_target, 5, (some .int), { frames := 9, cells := 3, slots := 18, locals := 174 }, [(0, 10, 13, 13)])
def fL_target  (r0 : Nat) (v1 : Int32) (v2 : Int32) (r3 : Nat) : AH → Option (Int32 × AH) := fun h =>
  cv 8 r0 (fX8_target r0 v1 v2) h (fun q h => match q with
  | Sum.inr x_2 =>
    (stJ r3 (nI 0) (Int32.toInt64 x_2) h).bind fun h =>
    some ((nI 0), h)
  | Sum.inl e =>
    if e = 1 then (
      some ((nI 1), h))
    else
    none)
theorem sL_target  (r0 : Nat) (v1 : Int32) (v2 : Int32) (r3 : Nat) : Sm mL_target rI 0 0 0 [some (.ref r0), some (.int v1), some (.int v2), some (.ref r3), none] [] (fL_target r0 v1 v2 r3) := by
  unfold fL_target
  refine S_aload_n (pc := 0) dL_target_0 rfl ?_
  refine S_iconst (pc := 1) (v := (nI 0)) dL_target_1 kI_0 ?_
  refine S_aload_n (pc := 2) dL_target_2 rfl ?_
  refine S_iload_n (pc := 3) dL_target_3 rfl ?_
  refine S_iload_n (pc := 4) dL_target_4 rfl ?_
  refine S_callV (pc := 5) (st := [.int (nI 0), .ref r3]) (ktX8_target r0 v1 v2) mw_X8_target mv_X8_target w1115 (RO.mk rfl rfl rfl rfl) rfl rfl rfl dL_target_5 (fun q v hv => ?_) (fun q k hk => ?_)
  · cases q with
    | inl k => cases hv
    | inr x_2 =>
      cases hv
      refine S_i2l (pc := 8) dL_target_8 ?_
      refine S_stJ (pc := 9) dL_target_9 ?_
      refine S_goto (pc := 10) (tgt := 17) dL_target_10 (by decide) ?_
      refine S_iconst (pc := 17) (v := (nI 0)) dL_target_17 kI_0 ?_
      exact S_iret (pc := 18) ⟨rfl, rfl⟩ rfl rfl dL_target_18
  · cases q with
    | inr x => cases hk
    | inl e =>
      cases hk
      refine X_if (fun n0 => ?_) (fun n0 => ?_)
      · subst n0
        refine X_catch (hp := 13) [] (0, 10, 13, 13) [] (by decide) rfl X_pass0 (by decide) (by decide) rfl w681 (fun qx => ?_)
        refine Z_astore (pc := 13) (lv' := [some (.ref r0), some (.int v1), some (.int v2), some (.ref r3), some (.ref qx)]) dL_target_13 rfl rfl rfl ?_
        refine S_iconst (pc := 15) (v := (nI 1)) dL_target_15 kI_1 ?_
        exact S_iret (pc := 16) ⟨rfl, rfl⟩ rfl rfl dL_target_16
      · exact X_none
theorem ktL_target (r0 : Nat) (v1 : Int32) (v2 : Int32) (r3 : Nat) : CtH mL_target rI [.ref r0, .int v1, .int v2, .ref r3] (fL_target r0 v1 v2 r3) := CtH.of (z := 1) pn_L rfl rfl (sL_target r0 v1 v2 r3)
def mL_verdict : MI := (yL_verdict, cL_verdict, 4, (some .int), { frames := 9, cells := 3, slots := 18, locals := 172 }, [(0, 9, 12, 13)])
def fL_verdict  (r0 : Nat) (v1 : Int32) (r2 : Nat) : AH → Option (Int32 × AH) := fun h =>
  cv 8 r0 (fX8_verdict r0 v1) h (fun q h => match q with
  | Sum.inr x_2 =>
    (stJ r2 (nI 0) (Int32.toInt64 x_2) h).bind fun h =>
    some ((nI 0), h)
  | Sum.inl e =>
    if e = 1 then (
      some ((nI 1), h))
    else
    none)
theorem sL_verdict  (r0 : Nat) (v1 : Int32) (r2 : Nat) : Sm mL_verdict rI 0 0 0 [some (.ref r0), some (.int v1), some (.ref r2), none] [] (fL_verdict r0 v1 r2) := by
  unfold fL_verdict
  refine S_aload_n (pc := 0) dL_verdict_0 rfl ?_
  refine S_iconst (pc := 1) (v := (nI 0)) dL_verdict_1 kI_0 ?_
  refine S_aload_n (pc := 2) dL_verdict_2 rfl ?_
  refine S_iload_n (pc := 3) dL_verdict_3 rfl ?_
  refine S_callV (pc := 4) (st := [.int (nI 0), .ref r2]) (ktX8_verdict r0 v1) mw_X8_verdict mv_X8_verdict w1122 (RO.mk rfl rfl rfl rfl) rfl rfl rfl dL_verdict_4 (fun q v hv => ?_) (fun q k hk => ?_)
  · cases q with
    | inl k => cases hv
    | inr x_2 =>
      cases hv
      refine S_i2l (pc := 7) dL_verdict_7 ?_
      refine S_stJ (pc := 8) dL_verdict_8 ?_
      refine S_goto (pc := 9) (tgt := 15) dL_verdict_9 (by decide) ?_
      refine S_iconst (pc := 15) (v := (nI 0)) dL_verdict_15 kI_0 ?_
      exact S_iret (pc := 16) ⟨rfl, rfl⟩ rfl rfl dL_verdict_16
  · cases q with
    | inr x => cases hk
    | inl e =>
      cases hk
      refine X_if (fun n0 => ?_) (fun n0 => ?_)
      · subst n0
        refine X_catch (hp := 12) [] (0, 9, 12, 13) [] (by decide) rfl X_pass0 (by decide) (by decide) rfl w681 (fun qx => ?_)
        refine Z_astore_n (pc := 12) (lv' := [some (.ref r0), some (.int v1), some (.ref r2), some (.ref qx)]) dL_verdict_12 rfl rfl rfl ?_
        refine S_iconst (pc := 13) (v := (nI 1)) dL_verdict_13 kI_1 ?_
        exact S_iret (pc := 14) ⟨rfl, rfl⟩ rfl rfl dL_verdict_14
      · exact X_none
theorem ktL_verdict (r0 : Nat) (v1 : Int32) (r2 : Nat) : CtH mL_verdict rI [.ref r0, .int v1, .ref r2] (fL_verdict r0 v1 r2) := CtH.of (z := 1) pn_L rfl rfl (sL_verdict r0 v1 r2)
def mL_sample : MI := (yL_sample, cL_sample, 6, (some .int), { frames := 7, cells := 3, slots := 18, locals := 175 }, [(0, 12, 15, 15)])
def fL_sample  (r0 : Nat) (v1 : Int32) (v2 : Int32) (v3 : Int32) (r4 : Nat) : AH → Option (Int32 × AH) := fun h =>
  cv 8 r0 (fX8_sample r0 v1 v2 v3) h (fun q h => match q with
  | Sum.inr x_2 =>
    (stJ r4 (nI 0) (Int32.toInt64 x_2) h).bind fun h =>
    some ((nI 0), h)
  | Sum.inl e =>
    if e = 2 then (
      some ((nI 1), h))
    else
    none)
theorem sL_sample  (r0 : Nat) (v1 : Int32) (v2 : Int32) (v3 : Int32) (r4 : Nat) : Sm mL_sample rI 0 0 0 [some (.ref r0), some (.int v1), some (.int v2), some (.int v3), some (.ref r4), none] [] (fL_sample r0 v1 v2 v3 r4) := by
  unfold fL_sample
  refine S_aload (pc := 0) dL_sample_0 rfl ?_
  refine S_iconst (pc := 2) (v := (nI 0)) dL_sample_2 kI_0 ?_
  refine S_aload_n (pc := 3) dL_sample_3 rfl ?_
  refine S_iload_n (pc := 4) dL_sample_4 rfl ?_
  refine S_iload_n (pc := 5) dL_sample_5 rfl ?_
  refine S_iload_n (pc := 6) dL_sample_6 rfl ?_
  refine S_callV (pc := 7) (st := [.int (nI 0), .ref r4]) (ktX8_sample r0 v1 v2 v3) mw_X8_sample mv_X8_sample w1137 (RO.mk rfl rfl rfl rfl) rfl rfl rfl dL_sample_7 (fun q v hv => ?_) (fun q k hk => ?_)
  · cases q with
    | inl k => cases hv
    | inr x_2 =>
      cases hv
      refine S_i2l (pc := 10) dL_sample_10 ?_
      refine S_stJ (pc := 11) dL_sample_11 ?_
      refine S_goto (pc := 12) (tgt := 19) dL_sample_12 (by decide) ?_
      refine S_iconst (pc := 19) (v := (nI 0)) dL_sample_19 kI_0 ?_
      exact S_iret (pc := 20) ⟨rfl, rfl⟩ rfl rfl dL_sample_20
  · cases q with
    | inr x => cases hk
    | inl e =>
      cases hk
      refine X_if (fun n0 => ?_) (fun n0 => ?_)
      · subst n0
        refine X_catch (hp := 15) [] (0, 12, 15, 15) [] (by decide) rfl X_pass0 (by decide) (by decide) rfl w682 (fun qx => ?_)
        refine Z_astore (pc := 15) (lv' := [some (.ref r0), some (.int v1), some (.int v2), some (.int v3), some (.ref r4), some (.ref qx)]) dL_sample_15 rfl rfl rfl ?_
        refine S_iconst (pc := 17) (v := (nI 1)) dL_sample_17 kI_1 ?_
        exact S_iret (pc := 18) ⟨rfl, rfl⟩ rfl rfl dL_sample_18
      · exact X_none
theorem ktL_sample (r0 : Nat) (v1 : Int32) (v2 : Int32) (v3 : Int32) (r4 : Nat) : CtH mL_sample rI [.ref r0, .int v1, .int v2, .int v3, .ref r4] (fL_sample r0 v1 v2 v3 r4) := CtH.of (z := 1) pn_L rfl rfl (sL_sample r0 v1 v2 v3 r4)
def mL_undo : MI := (yL_undo, cL_undo, 3, (some .int), { frames := 7, cells := 3, slots := 18, locals := 110 }, [(0, 8, 11, 17)])
def fL_undo  (r0 : Nat) (r1 : Nat) : AH → Option (Int32 × AH) := fun h =>
  cv 8 r0 (fX8_undo r0) h (fun q h => match q with
  | Sum.inr x_2 =>
    (stJ r1 (nI 0) (Int32.toInt64 x_2) h).bind fun h =>
    some ((nI 0), h)
  | Sum.inl e =>
    if e = 3 then (
      some ((nI 1), h))
    else
    none)
theorem sL_undo  (r0 : Nat) (r1 : Nat) : Sm mL_undo rI 0 0 0 [some (.ref r0), some (.ref r1), none] [] (fL_undo r0 r1) := by
  unfold fL_undo
  refine S_aload_n (pc := 0) dL_undo_0 rfl ?_
  refine S_iconst (pc := 1) (v := (nI 0)) dL_undo_1 kI_0 ?_
  refine S_aload_n (pc := 2) dL_undo_2 rfl ?_
  refine S_callV (pc := 3) (st := [.int (nI 0), .ref r1]) (ktX8_undo r0) mw_X8_undo mv_X8_undo w1164 (RO.mk rfl rfl rfl rfl) rfl rfl rfl dL_undo_3 (fun q v hv => ?_) (fun q k hk => ?_)
  · cases q with
    | inl k => cases hv
    | inr x_2 =>
      cases hv
      refine S_i2l (pc := 6) dL_undo_6 ?_
      refine S_stJ (pc := 7) dL_undo_7 ?_
      refine S_goto (pc := 8) (tgt := 14) dL_undo_8 (by decide) ?_
      refine S_iconst (pc := 14) (v := (nI 0)) dL_undo_14 kI_0 ?_
      exact S_iret (pc := 15) ⟨rfl, rfl⟩ rfl rfl dL_undo_15
  · cases q with
    | inr x => cases hk
    | inl e =>
      cases hk
      refine X_if (fun n0 => ?_) (fun n0 => ?_)
      · subst n0
        refine X_catch (hp := 11) [] (0, 8, 11, 17) [] (by decide) rfl X_pass0 (by decide) (by decide) rfl w683 (fun qx => ?_)
        refine Z_astore_n (pc := 11) (lv' := [some (.ref r0), some (.ref r1), some (.ref qx)]) dL_undo_11 rfl rfl rfl ?_
        refine S_iconst (pc := 12) (v := (nI 1)) dL_undo_12 kI_1 ?_
        exact S_iret (pc := 13) ⟨rfl, rfl⟩ rfl rfl dL_undo_13
      · exact X_none
theorem ktL_undo (r0 : Nat) (r1 : Nat) : CtH mL_undo rI [.ref r0, .ref r1] (fL_undo r0 r1) := CtH.of (z := 1) pn_L rfl rfl (sL_undo r0 r1)
