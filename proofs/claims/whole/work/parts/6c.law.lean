theorem ble_le {a b : Nat} (h : a ≤ b) : Nat.ble a b = true := Nat.ble_eq_true_of_le h
section R8
variable {ρ : Type} {M : MI} {inj : ρ → Rs} {kc ks pc : Nat} {lv lv' : List (Option Value)} {st : List Value} {M' : MI} {idx n kc' ks' : Nat} {As stk : List Value}
theorem Y_SH {f : AH → Option (Int32 × AH)} {K : Int32 → AH → Option (ρ × AH)} (hC : CtH M' rI As f) (w1 : Cond.codeWith (mY M') (mC M') (mN M') (mR M') (mH M') ∈ TW) (w2 : Cond.initialized (mY M').cls ∈ TW) (w3 : (mY M').cls ≠ "java/lang/invoke/MethodHandle" ∧ (mY M').cls ≠ "java/lang/invoke/VarHandle") (w4 : (parseMethodDescriptor (mY M').desc).map (fun d => d.parameters.length) = some n) (hv : Cond.static (mY M') ∈ TW) (hl : Cond.methodLink (mY M).cls idx (mY M') ∈ TW) (hr : RO M M' kc ks) (hn : As.length = n) (hst : stk = As.reverse ++ st) (hW : Nat.ble (st.map fun v => v.category).sum 8 = true) (d : decode (mC M) pc = .ok (.invokestatic idx, 3)) (hk : kc + (mO M').cells = kc' ∧ ks + (mO M').slots = ks')
    (kn : ∀ x, Sm M inj kc' ks' (pc + 3) lv (.int x :: st) (K x)) : Sm M inj kc ks pc lv stk (fun h => bd (f h) K) := by
  obtain ⟨rfl, rfl⟩ := hk
  exact S_callSH hC w1 w2 w3 w4 hv hl hr hn hst hW d kn
end R8
theorem w680 : Cond.codeWith (mY mL_define) (mC mL_define) (mN mL_define) (mR mL_define) (mH mL_define) ∈ TW := TW_in (tb_3 (List.mem_of_getElem? (i := 200) rfl)) rfl
theorem w814 : Cond.codeWith (mY mL_removeClass) (mC mL_removeClass) (mN mL_removeClass) (mR mL_removeClass) (mH mL_removeClass) ∈ TW := TW_in (tb_4 (List.mem_of_getElem? (i := 94) rfl)) rfl
theorem w845 : Cond.codeWith (mY mL_setClass) (mC mL_setClass) (mN mL_setClass) (mR mL_setClass) (mH mL_setClass) ∈ TW := TW_in (tb_4 (List.mem_of_getElem? (i := 125) rfl)) rfl
theorem w866 : Cond.codeWith (mY mL_exists) (mC mL_exists) (mN mL_exists) (mR mL_exists) (mH mL_exists) ∈ TW := TW_in (tb_4 (List.mem_of_getElem? (i := 146) rfl)) rfl
theorem w874 : Cond.codeWith (mY mL_classInfo) (mC mL_classInfo) (mN mL_classInfo) (mR mL_classInfo) (mH mL_classInfo) ∈ TW := TW_in (tb_4 (List.mem_of_getElem? (i := 154) rfl)) rfl
theorem w885 : Cond.codeWith (mY mL_draft) (mC mL_draft) (mN mL_draft) (mR mL_draft) (mH mL_draft) ∈ TW := TW_in (tb_4 (List.mem_of_getElem? (i := 165) rfl)) rfl
theorem w897 : Cond.codeWith (mY mL_addField) (mC mL_addField) (mN mL_addField) (mR mL_addField) (mH mL_addField) ∈ TW := TW_in (tb_4 (List.mem_of_getElem? (i := 177) rfl)) rfl
theorem w924 : Cond.codeWith (mY mL_addMethod) (mC mL_addMethod) (mN mL_addMethod) (mR mL_addMethod) (mH mL_addMethod) ∈ TW := TW_in (tb_4 (List.mem_of_getElem? (i := 204) rfl)) rfl
theorem w943 : Cond.codeWith (mY mL_removeMember) (mC mL_removeMember) (mN mL_removeMember) (mR mL_removeMember) (mH mL_removeMember) ∈ TW := TW_in (tb_4 (List.mem_of_getElem? (i := 223) rfl)) rfl
theorem w963 : Cond.codeWith (mY mL_setMember) (mC mL_setMember) (mN mL_setMember) (mR mL_setMember) (mH mL_setMember) ∈ TW := TW_in (tb_5 (List.mem_of_getElem? (i := 3) rfl)) rfl
theorem w977 : Cond.codeWith (mY mL_moveMember) (mC mL_moveMember) (mN mL_moveMember) (mR mL_moveMember) (mH mL_moveMember) ∈ TW := TW_in (tb_5 (List.mem_of_getElem? (i := 17) rfl)) rfl
theorem w992 : Cond.codeWith (mY mL_members) (mC mL_members) (mN mL_members) (mR mL_members) (mH mL_members) ∈ TW := TW_in (tb_5 (List.mem_of_getElem? (i := 32) rfl)) rfl
theorem w999 : Cond.codeWith (mY mL_memberInfo) (mC mL_memberInfo) (mN mL_memberInfo) (mR mL_memberInfo) (mH mL_memberInfo) ∈ TW := TW_in (tb_5 (List.mem_of_getElem? (i := 39) rfl)) rfl
theorem w1006 : Cond.codeWith (mY mL_fits) (mC mL_fits) (mN mL_fits) (mR mL_fits) (mH mL_fits) ∈ TW := TW_in (tb_5 (List.mem_of_getElem? (i := 46) rfl)) rfl
theorem w1014 : Cond.codeWith (mY mL_field) (mC mL_field) (mN mL_field) (mR mL_field) (mH mL_field) ∈ TW := TW_in (tb_5 (List.mem_of_getElem? (i := 54) rfl)) rfl
theorem w1026 : Cond.codeWith (mY mL_method) (mC mL_method) (mN mL_method) (mR mL_method) (mH mL_method) ∈ TW := TW_in (tb_5 (List.mem_of_getElem? (i := 66) rfl)) rfl
theorem w1035 : Cond.codeWith (mY mL_selected) (mC mL_selected) (mN mL_selected) (mR mL_selected) (mH mL_selected) ∈ TW := TW_in (tb_5 (List.mem_of_getElem? (i := 75) rfl)) rfl
theorem w1045 : Cond.codeWith (mY mL_addClient) (mC mL_addClient) (mN mL_addClient) (mR mL_addClient) (mH mL_addClient) ∈ TW := TW_in (tb_5 (List.mem_of_getElem? (i := 85) rfl)) rfl
theorem w1062 : Cond.codeWith (mY mL_setBase) (mC mL_setBase) (mN mL_setBase) (mR mL_setBase) (mH mL_setBase) ∈ TW := TW_in (tb_5 (List.mem_of_getElem? (i := 102) rfl)) rfl
theorem w1082 : Cond.codeWith (mY mL_removeClient) (mC mL_removeClient) (mN mL_removeClient) (mR mL_removeClient) (mH mL_removeClient) ∈ TW := TW_in (tb_5 (List.mem_of_getElem? (i := 122) rfl)) rfl
theorem w1093 : Cond.codeWith (mY mL_clientInfo) (mC mL_clientInfo) (mN mL_clientInfo) (mR mL_clientInfo) (mH mL_clientInfo) ∈ TW := TW_in (tb_5 (List.mem_of_getElem? (i := 133) rfl)) rfl
theorem w1100 : Cond.codeWith (mY mL_compile) (mC mL_compile) (mN mL_compile) (mR mL_compile) (mH mL_compile) ∈ TW := TW_in (tb_5 (List.mem_of_getElem? (i := 140) rfl)) rfl
theorem w1107 : Cond.codeWith (mY mL_link) (mC mL_link) (mN mL_link) (mR mL_link) (mH mL_link) ∈ TW := TW_in (tb_5 (List.mem_of_getElem? (i := 147) rfl)) rfl
theorem w1114 : Cond.codeWith (mY mL_target) (mC mL_target) (mN mL_target) (mR mL_target) (mH mL_target) ∈ TW := TW_in (tb_5 (List.mem_of_getElem? (i := 154) rfl)) rfl
theorem w1121 : Cond.codeWith (mY mL_verdict) (mC mL_verdict) (mN mL_verdict) (mR mL_verdict) (mH mL_verdict) ∈ TW := TW_in (tb_5 (List.mem_of_getElem? (i := 161) rfl)) rfl
theorem w1128 : Cond.codeWith (mY mL_count) (mC mL_count) (mN mL_count) (mR mL_count) (mH mL_count) ∈ TW := TW_in (tb_5 (List.mem_of_getElem? (i := 168) rfl)) rfl
theorem w1136 : Cond.codeWith (mY mL_sample) (mC mL_sample) (mN mL_sample) (mR mL_sample) (mH mL_sample) ∈ TW := TW_in (tb_5 (List.mem_of_getElem? (i := 176) rfl)) rfl
theorem w1163 : Cond.codeWith (mY mL_undo) (mC mL_undo) (mN mL_undo) (mR mL_undo) (mH mL_undo) ∈ TW := TW_in (tb_5 (List.mem_of_getElem? (i := 203) rfl)) rfl
def mL_law : MI := (x, code, 7, ret, room_1, [])
def fL_law_2382 (k23 : Nat → Nat → Nat → Nat → Int32 → AH → Option (Int32 × AH)) (r0 : Nat) (r1 : Nat) (r2 : Nat) (r3 : Nat) (v4 : Int32) : AH → Option (Int32 × AH) := fun h =>
  k23 r0 r1 r2 r3 (v4 + (nI 6)) h
def fL_law_252 (k23 : Nat → Nat → Nat → Nat → Int32 → AH → Option (Int32 × AH)) (r0 : Nat) (r1 : Nat) (r2 : Nat) (r3 : Nat) (v4 : Int32) (v5 : Int32) (s0 : Nat) (s1 : Int32) (s2 : Int32) (s3 : Int32) : AH → Option (Int32 × AH) := fun h =>
  (ldS r0 (v4 + (nI 4)) h).bind fun x_1 =>
  (ldS r0 (v4 + (nI 5)) h).bind fun x_2 =>
  cv 9 s0 (fX9_define s0 s1 s2 s3 x_1 x_2) h fun x_3 h =>
  cv 9 r2 (fX9_thrown r2) h fun x_4 h =>
  if x_4 = v5 then (
    if v5 = 0 then (
      (ldJ r3 (nI 0) h).bind fun y_5 =>
      if (lg_cmp y_5 (Int32.toInt64 x_3)) = 0 then (
        fL_law_2382 k23 r0 r1 r2 r3 v4 h)
      else
      rz (nI 0) (nI 0) h)
    else
    fL_law_2382 k23 r0 r1 r2 r3 v4 h)
  else
  rz (nI 0) (nI 0) h
def fL_law_207 (k23 : Nat → Nat → Nat → Nat → Int32 → AH → Option (Int32 × AH)) (r0 : Nat) (r1 : Nat) (r2 : Nat) (r3 : Nat) (v4 : Int32) (s0 : Nat) (s1 : Int32) (s2 : Int32) (s3 : Int32) : AH → Option (Int32 × AH) := fun h =>
  (ldS r0 (v4 + (nI 4)) h).bind fun x_6 =>
  (ldS r0 (v4 + (nI 5)) h).bind fun x_7 =>
  bd (fL_define s0 s1 s2 s3 x_6 x_7 r3 h) fun x_8 h =>
  (ldS r0 (v4 + (nI 1)) h).bind fun x_9 =>
  (ldS r0 (v4 + (nI 2)) h).bind fun x_10 =>
  (ldS r0 (v4 + (nI 3)) h).bind fun x_11 =>
  if x_11 = 0 then (
    fL_law_252 k23 r0 r1 r2 r3 v4 x_8 r2 x_9 x_10 (nI 0) h)
  else
  fL_law_252 k23 r0 r1 r2 r3 v4 x_8 r2 x_9 x_10 (nI 1) h
def fL_law_526 (k23 : Nat → Nat → Nat → Nat → Int32 → AH → Option (Int32 × AH)) (r0 : Nat) (r1 : Nat) (r2 : Nat) (r3 : Nat) (v4 : Int32) (s0 : Int64) (s1 : Int64) : AH → Option (Int32 × AH) := fun h =>
  if (lg_cmp s0 s1) = 0 then (
    fL_law_2382 k23 r0 r1 r2 r3 v4 h)
  else
  rz (nI 0) (nI 0) h
def fL_law_1382 (k23 : Nat → Nat → Nat → Nat → Int32 → AH → Option (Int32 × AH)) (r0 : Nat) (r1 : Nat) (r2 : Nat) (r3 : Nat) (v4 : Int32) (s0 : Int64) (s1 : Int64) : AH → Option (Int32 × AH) := fun h =>
  if (lg_cmp s0 s1) = 0 then (
    fL_law_2382 k23 r0 r1 r2 r3 v4 h)
  else
  rz (nI 0) (nI 0) h
def bL_law_23 (k23 : Nat → Nat → Nat → Nat → Int32 → AH → Option (Int32 × AH)) (r0 : Nat) (r1 : Nat) (r2 : Nat) (r3 : Nat) (v4 : Int32) : AH → Option (Int32 × AH) := fun h =>
  (lnS r0 h).bind fun x_12 =>
  if (x_12 - (nI 6)) < v4 then (
    rz (nI 1) (nI 1) h)
  else
  (ldS r0 v4 h).bind fun x_13 =>
  if (x_13 &&& (nI 31)) = (nI 0) then (
    (ldS r0 (v4 + (nI 1)) h).bind fun x_14 =>
    (ldS r0 (v4 + (nI 2)) h).bind fun x_15 =>
    (ldS r0 (v4 + (nI 3)) h).bind fun x_16 =>
    if x_16 = 0 then (
      fL_law_207 k23 r0 r1 r2 r3 v4 r1 x_14 x_15 (nI 0) h)
    else
    fL_law_207 k23 r0 r1 r2 r3 v4 r1 x_14 x_15 (nI 1) h)
  else
  if (x_13 &&& (nI 31)) = (nI 1) then (
    (ldS r0 (v4 + (nI 1)) h).bind fun x_17 =>
    (ldS r0 (v4 + (nI 2)) h).bind fun x_18 =>
    bd (fL_removeClass r1 x_17 x_18 r3 h) fun x_19 h =>
    (ldS r0 (v4 + (nI 1)) h).bind fun x_20 =>
    (ldS r0 (v4 + (nI 2)) h).bind fun x_21 =>
    cv 9 r2 (fX9_removeClass r2 x_20 x_21) h fun x_22 h =>
    cv 9 r2 (fX9_thrown r2) h fun x_23 h =>
    if x_23 = x_19 then (
      if x_19 = 0 then (
        (ldJ r3 (nI 0) h).bind fun y_24 =>
        if (lg_cmp y_24 (Int32.toInt64 x_22)) = 0 then (
          fL_law_2382 k23 r0 r1 r2 r3 v4 h)
        else
        rz (nI 0) (nI 0) h)
      else
      fL_law_2382 k23 r0 r1 r2 r3 v4 h)
    else
    rz (nI 0) (nI 0) h)
  else
  if (x_13 &&& (nI 31)) = (nI 2) then (
    (ldS r0 (v4 + (nI 1)) h).bind fun x_25 =>
    (ldS r0 (v4 + (nI 2)) h).bind fun x_26 =>
    (ldS r0 (v4 + (nI 3)) h).bind fun x_27 =>
    (ldS r0 (v4 + (nI 4)) h).bind fun x_28 =>
    bd (fL_setClass r1 x_25 x_26 x_27 x_28 r3 h) fun x_29 h =>
    (ldS r0 (v4 + (nI 1)) h).bind fun x_30 =>
    (ldS r0 (v4 + (nI 2)) h).bind fun x_31 =>
    (ldS r0 (v4 + (nI 3)) h).bind fun x_32 =>
    (ldS r0 (v4 + (nI 4)) h).bind fun x_33 =>
    cv 9 r2 (fX9_setClass r2 x_30 x_31 x_32 x_33) h fun x_34 h =>
    cv 9 r2 (fX9_thrown r2) h fun x_35 h =>
    if x_35 = x_29 then (
      if x_29 = 0 then (
        (ldJ r3 (nI 0) h).bind fun y_36 =>
        if (lg_cmp y_36 (Int32.toInt64 x_34)) = 0 then (
          fL_law_2382 k23 r0 r1 r2 r3 v4 h)
        else
        rz (nI 0) (nI 0) h)
      else
      fL_law_2382 k23 r0 r1 r2 r3 v4 h)
    else
    rz (nI 0) (nI 0) h)
  else
  if (x_13 &&& (nI 31)) = (nI 3) then (
    (ldS r0 (v4 + (nI 1)) h).bind fun x_37 =>
    (ldS r0 (v4 + (nI 2)) h).bind fun x_38 =>
    bd (fL_exists r1 x_37 x_38 r3 h) fun x_39 h =>
    (ldS r0 (v4 + (nI 1)) h).bind fun x_40 =>
    (ldS r0 (v4 + (nI 2)) h).bind fun x_41 =>
    cv 9 r2 (fX9_exists r2 x_40 x_41) h fun x_42 h =>
    cv 9 r2 (fX9_thrown r2) h fun x_43 h =>
    if x_43 = x_39 then (
      if x_39 = 0 then (
        (ldJ r3 (nI 0) h).bind fun y_44 =>
        if x_42 = 0 then (
          fL_law_526 k23 r0 r1 r2 r3 v4 y_44 (0 : Int64) h)
        else
        fL_law_526 k23 r0 r1 r2 r3 v4 y_44 (1 : Int64) h)
      else
      fL_law_2382 k23 r0 r1 r2 r3 v4 h)
    else
    rz (nI 0) (nI 0) h)
  else
  if (x_13 &&& (nI 31)) = (nI 4) then (
    (ldS r0 (v4 + (nI 1)) h).bind fun x_45 =>
    (ldS r0 (v4 + (nI 2)) h).bind fun x_46 =>
    (ldS r0 (v4 + (nI 3)) h).bind fun x_47 =>
    bd (fL_classInfo r1 x_45 x_46 x_47 r3 h) fun x_48 h =>
    (ldS r0 (v4 + (nI 1)) h).bind fun x_49 =>
    (ldS r0 (v4 + (nI 2)) h).bind fun x_50 =>
    (ldS r0 (v4 + (nI 3)) h).bind fun x_51 =>
    cv 9 r2 (fX9_classInfo r2 x_49 x_50 x_51) h fun x_52 h =>
    cv 9 r2 (fX9_thrown r2) h fun x_53 h =>
    if x_53 = x_48 then (
      if x_48 = 0 then (
        (ldJ r3 (nI 0) h).bind fun y_54 =>
        if (lg_cmp y_54 (Int32.toInt64 x_52)) = 0 then (
          fL_law_2382 k23 r0 r1 r2 r3 v4 h)
        else
        rz (nI 0) (nI 0) h)
      else
      fL_law_2382 k23 r0 r1 r2 r3 v4 h)
    else
    rz (nI 0) (nI 0) h)
  else
  if (x_13 &&& (nI 31)) = (nI 5) then (
    cv 8 r1 (fX8_copyVersion r1) h fun x_55 h =>
    cv 9 r2 (fX9_copyVersion r2) h fun x_56 h =>
    if x_55 = x_56 then (
      fL_law_2382 k23 r0 r1 r2 r3 v4 h)
    else
    rz (nI 0) (nI 0) h)
  else
  if (x_13 &&& (nI 31)) = (nI 6) then (
    (ldS r0 (v4 + (nI 1)) h).bind fun x_57 =>
    (ldS r0 (v4 + (nI 2)) h).bind fun x_58 =>
    (ldS r0 (v4 + (nI 3)) h).bind fun x_59 =>
    (ldS r0 (v4 + (nI 4)) h).bind fun x_60 =>
    bd (fL_draft r1 x_57 x_58 x_59 x_60 r3 h) fun x_61 h =>
    (ldS r0 (v4 + (nI 1)) h).bind fun x_62 =>
    (ldS r0 (v4 + (nI 2)) h).bind fun x_63 =>
    (ldS r0 (v4 + (nI 3)) h).bind fun x_64 =>
    (ldS r0 (v4 + (nI 4)) h).bind fun x_65 =>
    cv 9 r2 (fX9_draft r2 x_62 x_63 x_64 x_65) h fun x_66 h =>
    cv 9 r2 (fX9_thrown r2) h fun x_67 h =>
    if x_67 = x_61 then (
      if x_61 = 0 then (
        (ldJ r3 (nI 0) h).bind fun y_68 =>
        if (lg_cmp y_68 (Int32.toInt64 x_66)) = 0 then (
          fL_law_2382 k23 r0 r1 r2 r3 v4 h)
        else
        rz (nI 0) (nI 0) h)
      else
      fL_law_2382 k23 r0 r1 r2 r3 v4 h)
    else
    rz (nI 0) (nI 0) h)
  else
  if (x_13 &&& (nI 31)) = (nI 7) then (
    (ldS r0 (v4 + (nI 1)) h).bind fun x_69 =>
    (ldS r0 (v4 + (nI 2)) h).bind fun x_70 =>
    (ldS r0 (v4 + (nI 3)) h).bind fun x_71 =>
    (ldS r0 (v4 + (nI 4)) h).bind fun x_72 =>
    (ldS r0 (v4 + (nI 5)) h).bind fun x_73 =>
    bd (fL_addField r1 x_69 x_70 x_71 x_72 x_73 r3 h) fun x_74 h =>
    (ldS r0 (v4 + (nI 1)) h).bind fun x_75 =>
    (ldS r0 (v4 + (nI 2)) h).bind fun x_76 =>
    (ldS r0 (v4 + (nI 3)) h).bind fun x_77 =>
    (ldS r0 (v4 + (nI 4)) h).bind fun x_78 =>
    (ldS r0 (v4 + (nI 5)) h).bind fun x_79 =>
    cv 9 r2 (fX9_addField r2 x_75 x_76 x_77 x_78 x_79) h fun x_80 h =>
    cv 9 r2 (fX9_thrown r2) h fun x_81 h =>
    if x_81 = x_74 then (
      if x_74 = 0 then (
        (ldJ r3 (nI 0) h).bind fun y_82 =>
        if (lg_cmp y_82 (Int32.toInt64 x_80)) = 0 then (
          fL_law_2382 k23 r0 r1 r2 r3 v4 h)
        else
        rz (nI 0) (nI 0) h)
      else
      fL_law_2382 k23 r0 r1 r2 r3 v4 h)
    else
    rz (nI 0) (nI 0) h)
  else
  if (x_13 &&& (nI 31)) = (nI 8) then (
    (ldS r0 (v4 + (nI 1)) h).bind fun x_83 =>
    (ldS r0 (v4 + (nI 2)) h).bind fun x_84 =>
    (ldS r0 (v4 + (nI 3)) h).bind fun x_85 =>
    (ldS r0 (v4 + (nI 4)) h).bind fun x_86 =>
    (ldS r0 (v4 + (nI 5)) h).bind fun x_87 =>
    bd (fL_addMethod r1 x_83 x_84 x_85 x_86 x_87 r3 h) fun x_88 h =>
    (ldS r0 (v4 + (nI 1)) h).bind fun x_89 =>
    (ldS r0 (v4 + (nI 2)) h).bind fun x_90 =>
    (ldS r0 (v4 + (nI 3)) h).bind fun x_91 =>
    (ldS r0 (v4 + (nI 4)) h).bind fun x_92 =>
    (ldS r0 (v4 + (nI 5)) h).bind fun x_93 =>
    cv 9 r2 (fX9_addMethod r2 x_89 x_90 x_91 x_92 x_93) h fun x_94 h =>
    cv 9 r2 (fX9_thrown r2) h fun x_95 h =>
    if x_95 = x_88 then (
      if x_88 = 0 then (
        (ldJ r3 (nI 0) h).bind fun y_96 =>
        if (lg_cmp y_96 (Int32.toInt64 x_94)) = 0 then (
          fL_law_2382 k23 r0 r1 r2 r3 v4 h)
        else
        rz (nI 0) (nI 0) h)
      else
      fL_law_2382 k23 r0 r1 r2 r3 v4 h)
    else
    rz (nI 0) (nI 0) h)
  else
  if (x_13 &&& (nI 31)) = (nI 9) then (
    (ldS r0 (v4 + (nI 1)) h).bind fun x_97 =>
    (ldS r0 (v4 + (nI 2)) h).bind fun x_98 =>
    bd (fL_removeMember r1 x_97 x_98 r3 h) fun x_99 h =>
    (ldS r0 (v4 + (nI 1)) h).bind fun x_100 =>
    (ldS r0 (v4 + (nI 2)) h).bind fun x_101 =>
    cv 9 r2 (fX9_removeMember r2 x_100 x_101) h fun x_102 h =>
    cv 9 r2 (fX9_thrown r2) h fun x_103 h =>
    if x_103 = x_99 then (
      if x_99 = 0 then (
        (ldJ r3 (nI 0) h).bind fun y_104 =>
        if (lg_cmp y_104 (Int32.toInt64 x_102)) = 0 then (
          fL_law_2382 k23 r0 r1 r2 r3 v4 h)
        else
        rz (nI 0) (nI 0) h)
      else
      fL_law_2382 k23 r0 r1 r2 r3 v4 h)
    else
    rz (nI 0) (nI 0) h)
  else
  if (x_13 &&& (nI 31)) = (nI 10) then (
    (ldS r0 (v4 + (nI 1)) h).bind fun x_105 =>
    (ldS r0 (v4 + (nI 2)) h).bind fun x_106 =>
    (ldS r0 (v4 + (nI 3)) h).bind fun x_107 =>
    (ldS r0 (v4 + (nI 4)) h).bind fun x_108 =>
    bd (fL_setMember r1 x_105 x_106 x_107 x_108 r3 h) fun x_109 h =>
    (ldS r0 (v4 + (nI 1)) h).bind fun x_110 =>
    (ldS r0 (v4 + (nI 2)) h).bind fun x_111 =>
    (ldS r0 (v4 + (nI 3)) h).bind fun x_112 =>
    (ldS r0 (v4 + (nI 4)) h).bind fun x_113 =>
    cv 9 r2 (fX9_setMember r2 x_110 x_111 x_112 x_113) h fun x_114 h =>
    cv 9 r2 (fX9_thrown r2) h fun x_115 h =>
    if x_115 = x_109 then (
      if x_109 = 0 then (
        (ldJ r3 (nI 0) h).bind fun y_116 =>
        if (lg_cmp y_116 (Int32.toInt64 x_114)) = 0 then (
          fL_law_2382 k23 r0 r1 r2 r3 v4 h)
        else
        rz (nI 0) (nI 0) h)
      else
      fL_law_2382 k23 r0 r1 r2 r3 v4 h)
    else
    rz (nI 0) (nI 0) h)
  else
  if (x_13 &&& (nI 31)) = (nI 11) then (
    (ldS r0 (v4 + (nI 1)) h).bind fun x_117 =>
    (ldS r0 (v4 + (nI 2)) h).bind fun x_118 =>
    (ldS r0 (v4 + (nI 3)) h).bind fun x_119 =>
    bd (fL_moveMember r1 x_117 x_118 x_119 r3 h) fun x_120 h =>
    (ldS r0 (v4 + (nI 1)) h).bind fun x_121 =>
    (ldS r0 (v4 + (nI 2)) h).bind fun x_122 =>
    (ldS r0 (v4 + (nI 3)) h).bind fun x_123 =>
    cv 9 r2 (fX9_moveMember r2 x_121 x_122 x_123) h fun x_124 h =>
    cv 9 r2 (fX9_thrown r2) h fun x_125 h =>
    if x_125 = x_120 then (
      if x_120 = 0 then (
        (ldJ r3 (nI 0) h).bind fun y_126 =>
        if (lg_cmp y_126 (Int32.toInt64 x_124)) = 0 then (
          fL_law_2382 k23 r0 r1 r2 r3 v4 h)
        else
        rz (nI 0) (nI 0) h)
      else
      fL_law_2382 k23 r0 r1 r2 r3 v4 h)
    else
    rz (nI 0) (nI 0) h)
  else
  if (x_13 &&& (nI 31)) = (nI 12) then (
    (ldS r0 (v4 + (nI 1)) h).bind fun x_127 =>
    bd (fL_members r1 x_127 r3 h) fun x_128 h =>
    (ldS r0 (v4 + (nI 1)) h).bind fun x_129 =>
    cv 9 r2 (fX9_members r2 x_129) h fun x_130 h =>
    cv 9 r2 (fX9_thrown r2) h fun x_131 h =>
    if x_131 = x_128 then (
      if x_128 = 0 then (
        (ldJ r3 (nI 0) h).bind fun y_132 =>
        if (lg_cmp y_132 (Int32.toInt64 x_130)) = 0 then (
          fL_law_2382 k23 r0 r1 r2 r3 v4 h)
        else
        rz (nI 0) (nI 0) h)
      else
      fL_law_2382 k23 r0 r1 r2 r3 v4 h)
    else
    rz (nI 0) (nI 0) h)
  else
  if (x_13 &&& (nI 31)) = (nI 13) then (
    (ldS r0 (v4 + (nI 1)) h).bind fun x_133 =>
    (ldS r0 (v4 + (nI 2)) h).bind fun x_134 =>
    (ldS r0 (v4 + (nI 3)) h).bind fun x_135 =>
    bd (fL_memberInfo r1 x_133 x_134 x_135 r3 h) fun x_136 h =>
    (ldS r0 (v4 + (nI 1)) h).bind fun x_137 =>
    (ldS r0 (v4 + (nI 2)) h).bind fun x_138 =>
    (ldS r0 (v4 + (nI 3)) h).bind fun x_139 =>
    cv 9 r2 (fX9_memberInfo r2 x_137 x_138 x_139) h fun x_140 h =>
    cv 9 r2 (fX9_thrown r2) h fun x_141 h =>
    if x_141 = x_136 then (
      if x_136 = 0 then (
        (ldJ r3 (nI 0) h).bind fun y_142 =>
        if (lg_cmp y_142 (Int32.toInt64 x_140)) = 0 then (
          fL_law_2382 k23 r0 r1 r2 r3 v4 h)
        else
        rz (nI 0) (nI 0) h)
      else
      fL_law_2382 k23 r0 r1 r2 r3 v4 h)
    else
    rz (nI 0) (nI 0) h)
  else
  if (x_13 &&& (nI 31)) = (nI 14) then (
    (ldS r0 (v4 + (nI 1)) h).bind fun x_143 =>
    (ldS r0 (v4 + (nI 2)) h).bind fun x_144 =>
    (ldS r0 (v4 + (nI 3)) h).bind fun x_145 =>
    bd (fL_fits r1 x_143 x_144 x_145 r3 h) fun x_146 h =>
    (ldS r0 (v4 + (nI 1)) h).bind fun x_147 =>
    (ldS r0 (v4 + (nI 2)) h).bind fun x_148 =>
    (ldS r0 (v4 + (nI 3)) h).bind fun x_149 =>
    cv 9 r2 (fX9_fits r2 x_147 x_148 x_149) h fun x_150 h =>
    cv 9 r2 (fX9_thrown r2) h fun x_151 h =>
    if x_151 = x_146 then (
      if x_146 = 0 then (
        (ldJ r3 (nI 0) h).bind fun y_152 =>
        if x_150 = 0 then (
          fL_law_1382 k23 r0 r1 r2 r3 v4 y_152 (0 : Int64) h)
        else
        fL_law_1382 k23 r0 r1 r2 r3 v4 y_152 (1 : Int64) h)
      else
      fL_law_2382 k23 r0 r1 r2 r3 v4 h)
    else
    rz (nI 0) (nI 0) h)
  else
  if (x_13 &&& (nI 31)) = (nI 15) then (
    (ldS r0 (v4 + (nI 1)) h).bind fun x_153 =>
    (ldS r0 (v4 + (nI 2)) h).bind fun x_154 =>
    (ldS r0 (v4 + (nI 3)) h).bind fun x_155 =>
    bd (fL_field r1 x_153 x_154 x_155 r3 h) fun x_156 h =>
    (ldS r0 (v4 + (nI 1)) h).bind fun x_157 =>
    (ldS r0 (v4 + (nI 2)) h).bind fun x_158 =>
    (ldS r0 (v4 + (nI 3)) h).bind fun x_159 =>
    cv 9 r2 (fX9_field r2 x_157 x_158 x_159) h fun x_160 h =>
    cv 9 r2 (fX9_thrown r2) h fun x_161 h =>
    if x_161 = x_156 then (
      if x_156 = 0 then (
        (ldJ r3 (nI 0) h).bind fun y_162 =>
        if (lg_cmp y_162 (Int32.toInt64 x_160)) = 0 then (
          fL_law_2382 k23 r0 r1 r2 r3 v4 h)
        else
        rz (nI 0) (nI 0) h)
      else
      fL_law_2382 k23 r0 r1 r2 r3 v4 h)
    else
    rz (nI 0) (nI 0) h)
  else
  if (x_13 &&& (nI 31)) = (nI 16) then (
    (ldS r0 (v4 + (nI 1)) h).bind fun x_163 =>
    (ldS r0 (v4 + (nI 2)) h).bind fun x_164 =>
    (ldS r0 (v4 + (nI 3)) h).bind fun x_165 =>
    bd (fL_method r1 x_163 x_164 x_165 r3 h) fun x_166 h =>
    (ldS r0 (v4 + (nI 1)) h).bind fun x_167 =>
    (ldS r0 (v4 + (nI 2)) h).bind fun x_168 =>
    (ldS r0 (v4 + (nI 3)) h).bind fun x_169 =>
    cv 9 r2 (fX9_method r2 x_167 x_168 x_169) h fun x_170 h =>
    cv 9 r2 (fX9_thrown r2) h fun x_171 h =>
    if x_171 = x_166 then (
      if x_166 = 0 then (
        (ldJ r3 (nI 0) h).bind fun y_172 =>
        if (lg_cmp y_172 (Int32.toInt64 x_170)) = 0 then (
          fL_law_2382 k23 r0 r1 r2 r3 v4 h)
        else
        rz (nI 0) (nI 0) h)
      else
      fL_law_2382 k23 r0 r1 r2 r3 v4 h)
    else
    rz (nI 0) (nI 0) h)
  else
  if (x_13 &&& (nI 31)) = (nI 17) then (
    (ldS r0 (v4 + (nI 1)) h).bind fun x_173 =>
    (ldS r0 (v4 + (nI 2)) h).bind fun x_174 =>
    (ldS r0 (v4 + (nI 3)) h).bind fun x_175 =>
    bd (fL_selected r1 x_173 x_174 x_175 r3 h) fun x_176 h =>
    (ldS r0 (v4 + (nI 1)) h).bind fun x_177 =>
    (ldS r0 (v4 + (nI 2)) h).bind fun x_178 =>
    (ldS r0 (v4 + (nI 3)) h).bind fun x_179 =>
    cv 9 r2 (fX9_selected r2 x_177 x_178 x_179) h fun x_180 h =>
    cv 9 r2 (fX9_thrown r2) h fun x_181 h =>
    if x_181 = x_176 then (
      if x_176 = 0 then (
        (ldJ r3 (nI 0) h).bind fun y_182 =>
        if (lg_cmp y_182 (Int32.toInt64 x_180)) = 0 then (
          fL_law_2382 k23 r0 r1 r2 r3 v4 h)
        else
        rz (nI 0) (nI 0) h)
      else
      fL_law_2382 k23 r0 r1 r2 r3 v4 h)
    else
    rz (nI 0) (nI 0) h)
  else
  if (x_13 &&& (nI 31)) = (nI 18) then (
    (ldS r0 (v4 + (nI 1)) h).bind fun x_183 =>
    (ldS r0 (v4 + (nI 2)) h).bind fun x_184 =>
    (ldS r0 (v4 + (nI 3)) h).bind fun x_185 =>
    (ldS r0 (v4 + (nI 4)) h).bind fun x_186 =>
    bd (fL_addClient r1 x_183 x_184 x_185 x_186 r3 h) fun x_187 h =>
    (ldS r0 (v4 + (nI 1)) h).bind fun x_188 =>
    (ldS r0 (v4 + (nI 2)) h).bind fun x_189 =>
    (ldS r0 (v4 + (nI 3)) h).bind fun x_190 =>
    (ldS r0 (v4 + (nI 4)) h).bind fun x_191 =>
    cv 9 r2 (fX9_addClient r2 x_188 x_189 x_190 x_191) h fun x_192 h =>
    cv 9 r2 (fX9_thrown r2) h fun x_193 h =>
    if x_193 = x_187 then (
      if x_187 = 0 then (
        (ldJ r3 (nI 0) h).bind fun y_194 =>
        if (lg_cmp y_194 (Int32.toInt64 x_192)) = 0 then (
          fL_law_2382 k23 r0 r1 r2 r3 v4 h)
        else
        rz (nI 0) (nI 0) h)
      else
      fL_law_2382 k23 r0 r1 r2 r3 v4 h)
    else
    rz (nI 0) (nI 0) h)
  else
  if (x_13 &&& (nI 31)) = (nI 19) then (
    (ldS r0 (v4 + (nI 1)) h).bind fun x_195 =>
    (ldS r0 (v4 + (nI 2)) h).bind fun x_196 =>
    bd (fL_setBase r1 x_195 x_196 r3 h) fun x_197 h =>
    (ldS r0 (v4 + (nI 1)) h).bind fun x_198 =>
    (ldS r0 (v4 + (nI 2)) h).bind fun x_199 =>
    cv 9 r2 (fX9_setBase r2 x_198 x_199) h fun x_200 h =>
    cv 9 r2 (fX9_thrown r2) h fun x_201 h =>
    if x_201 = x_197 then (
      if x_197 = 0 then (
        (ldJ r3 (nI 0) h).bind fun y_202 =>
        if (lg_cmp y_202 (Int32.toInt64 x_200)) = 0 then (
          fL_law_2382 k23 r0 r1 r2 r3 v4 h)
        else
        rz (nI 0) (nI 0) h)
      else
      fL_law_2382 k23 r0 r1 r2 r3 v4 h)
    else
    rz (nI 0) (nI 0) h)
  else
  if (x_13 &&& (nI 31)) = (nI 20) then (
    (ldS r0 (v4 + (nI 1)) h).bind fun x_203 =>
    bd (fL_removeClient r1 x_203 r3 h) fun x_204 h =>
    (ldS r0 (v4 + (nI 1)) h).bind fun x_205 =>
    cv 9 r2 (fX9_removeClient r2 x_205) h fun x_206 h =>
    cv 9 r2 (fX9_thrown r2) h fun x_207 h =>
    if x_207 = x_204 then (
      if x_204 = 0 then (
        (ldJ r3 (nI 0) h).bind fun y_208 =>
        if (lg_cmp y_208 (Int32.toInt64 x_206)) = 0 then (
          fL_law_2382 k23 r0 r1 r2 r3 v4 h)
        else
        rz (nI 0) (nI 0) h)
      else
      fL_law_2382 k23 r0 r1 r2 r3 v4 h)
    else
    rz (nI 0) (nI 0) h)
  else
  if (x_13 &&& (nI 31)) = (nI 21) then (
    cv 8 r1 (fX8_clients r1) h fun x_209 h =>
    cv 9 r2 (fX9_clients r2) h fun x_210 h =>
    if x_209 = x_210 then (
      fL_law_2382 k23 r0 r1 r2 r3 v4 h)
    else
    rz (nI 0) (nI 0) h)
  else
  if (x_13 &&& (nI 31)) = (nI 22) then (
    (ldS r0 (v4 + (nI 1)) h).bind fun x_211 =>
    (ldS r0 (v4 + (nI 2)) h).bind fun x_212 =>
    bd (fL_clientInfo r1 x_211 x_212 r3 h) fun x_213 h =>
    (ldS r0 (v4 + (nI 1)) h).bind fun x_214 =>
    (ldS r0 (v4 + (nI 2)) h).bind fun x_215 =>
    cv 9 r2 (fX9_clientInfo r2 x_214 x_215) h fun x_216 h =>
    cv 9 r2 (fX9_thrown r2) h fun x_217 h =>
    if x_217 = x_213 then (
      if x_213 = 0 then (
        (ldJ r3 (nI 0) h).bind fun y_218 =>
        if (lg_cmp y_218 (Int32.toInt64 x_216)) = 0 then (
          fL_law_2382 k23 r0 r1 r2 r3 v4 h)
        else
        rz (nI 0) (nI 0) h)
      else
      fL_law_2382 k23 r0 r1 r2 r3 v4 h)
    else
    rz (nI 0) (nI 0) h)
  else
  if (x_13 &&& (nI 31)) = (nI 23) then (
    (ldS r0 (v4 + (nI 1)) h).bind fun x_219 =>
    (ldS r0 (v4 + (nI 2)) h).bind fun x_220 =>
    bd (fL_compile r1 x_219 x_220 r3 h) fun x_221 h =>
    (ldS r0 (v4 + (nI 1)) h).bind fun x_222 =>
    (ldS r0 (v4 + (nI 2)) h).bind fun x_223 =>
    cv 9 r2 (fX9_compile r2 x_222 x_223) h fun x_224 h =>
    cv 9 r2 (fX9_thrown r2) h fun x_225 h =>
    if x_225 = x_221 then (
      if x_221 = 0 then (
        (ldJ r3 (nI 0) h).bind fun y_226 =>
        if (lg_cmp y_226 (Int32.toInt64 x_224)) = 0 then (
          fL_law_2382 k23 r0 r1 r2 r3 v4 h)
        else
        rz (nI 0) (nI 0) h)
      else
      fL_law_2382 k23 r0 r1 r2 r3 v4 h)
    else
    rz (nI 0) (nI 0) h)
  else
  if (x_13 &&& (nI 31)) = (nI 24) then (
    (ldS r0 (v4 + (nI 1)) h).bind fun x_227 =>
    (ldS r0 (v4 + (nI 2)) h).bind fun x_228 =>
    bd (fL_link r1 x_227 x_228 r3 h) fun x_229 h =>
    (ldS r0 (v4 + (nI 1)) h).bind fun x_230 =>
    (ldS r0 (v4 + (nI 2)) h).bind fun x_231 =>
    cv 9 r2 (fX9_link r2 x_230 x_231) h fun x_232 h =>
    cv 9 r2 (fX9_thrown r2) h fun x_233 h =>
    if x_233 = x_229 then (
      if x_229 = 0 then (
        (ldJ r3 (nI 0) h).bind fun y_234 =>
        if (lg_cmp y_234 (Int32.toInt64 x_232)) = 0 then (
          fL_law_2382 k23 r0 r1 r2 r3 v4 h)
        else
        rz (nI 0) (nI 0) h)
      else
      fL_law_2382 k23 r0 r1 r2 r3 v4 h)
    else
    rz (nI 0) (nI 0) h)
  else
  if (x_13 &&& (nI 31)) = (nI 25) then (
    (ldS r0 (v4 + (nI 1)) h).bind fun x_235 =>
    (ldS r0 (v4 + (nI 2)) h).bind fun x_236 =>
    bd (fL_target r1 x_235 x_236 r3 h) fun x_237 h =>
    (ldS r0 (v4 + (nI 1)) h).bind fun x_238 =>
    (ldS r0 (v4 + (nI 2)) h).bind fun x_239 =>
    cv 9 r2 (fX9_target r2 x_238 x_239) h fun x_240 h =>
    cv 9 r2 (fX9_thrown r2) h fun x_241 h =>
    if x_241 = x_237 then (
      if x_237 = 0 then (
        (ldJ r3 (nI 0) h).bind fun y_242 =>
        if (lg_cmp y_242 (Int32.toInt64 x_240)) = 0 then (
          fL_law_2382 k23 r0 r1 r2 r3 v4 h)
        else
        rz (nI 0) (nI 0) h)
      else
      fL_law_2382 k23 r0 r1 r2 r3 v4 h)
    else
    rz (nI 0) (nI 0) h)
  else
  if (x_13 &&& (nI 31)) = (nI 26) then (
    (ldS r0 (v4 + (nI 1)) h).bind fun x_243 =>
    bd (fL_verdict r1 x_243 r3 h) fun x_244 h =>
    (ldS r0 (v4 + (nI 1)) h).bind fun x_245 =>
    cv 9 r2 (fX9_verdict r2 x_245) h fun x_246 h =>
    cv 9 r2 (fX9_thrown r2) h fun x_247 h =>
    if x_247 = x_244 then (
      if x_244 = 0 then (
        (ldJ r3 (nI 0) h).bind fun y_248 =>
        if (lg_cmp y_248 (Int32.toInt64 x_246)) = 0 then (
          fL_law_2382 k23 r0 r1 r2 r3 v4 h)
        else
        rz (nI 0) (nI 0) h)
      else
      fL_law_2382 k23 r0 r1 r2 r3 v4 h)
    else
    rz (nI 0) (nI 0) h)
  else
  if (x_13 &&& (nI 31)) = (nI 27) then (
    (ldS r0 (v4 + (nI 1)) h).bind fun x_249 =>
    bd (fL_count r1 x_249 r3 h) fun x_250 h =>
    (ldS r0 (v4 + (nI 1)) h).bind fun x_251 =>
    cv 9 r2 (fX9_count r2 x_251) h fun x_252 h =>
    cv 9 r2 (fX9_thrown r2) h fun x_253 h =>
    if x_253 = x_250 then (
      if x_250 = 0 then (
        (ldJ r3 (nI 0) h).bind fun y_254 =>
        if (lg_cmp y_254 (Int32.toInt64 x_252)) = 0 then (
          fL_law_2382 k23 r0 r1 r2 r3 v4 h)
        else
        rz (nI 0) (nI 0) h)
      else
      fL_law_2382 k23 r0 r1 r2 r3 v4 h)
    else
    rz (nI 0) (nI 0) h)
  else
  if (x_13 &&& (nI 31)) = (nI 28) then (
    (ldS r0 (v4 + (nI 1)) h).bind fun x_255 =>
    (ldS r0 (v4 + (nI 2)) h).bind fun x_256 =>
    (ldS r0 (v4 + (nI 3)) h).bind fun x_257 =>
    bd (fL_sample r1 x_255 x_256 x_257 r3 h) fun x_258 h =>
    (ldS r0 (v4 + (nI 1)) h).bind fun x_259 =>
    (ldS r0 (v4 + (nI 2)) h).bind fun x_260 =>
    (ldS r0 (v4 + (nI 3)) h).bind fun x_261 =>
    cv 9 r2 (fX9_sample r2 x_259 x_260 x_261) h fun x_262 h =>
    cv 9 r2 (fX9_thrown r2) h fun x_263 h =>
    if x_263 = x_258 then (
      if x_258 = 0 then (
        (ldJ r3 (nI 0) h).bind fun y_264 =>
        if (lg_cmp y_264 (Int32.toInt64 x_262)) = 0 then (
          fL_law_2382 k23 r0 r1 r2 r3 v4 h)
        else
        rz (nI 0) (nI 0) h)
      else
      fL_law_2382 k23 r0 r1 r2 r3 v4 h)
    else
    rz (nI 0) (nI 0) h)
  else
  if (x_13 &&& (nI 31)) = (nI 29) then (
    bd (fL_undo r1 r3 h) fun x_265 h =>
    cv 9 r2 (fX9_undo r2) h fun x_266 h =>
    cv 9 r2 (fX9_thrown r2) h fun x_267 h =>
    if x_267 = x_265 then (
      if x_265 = 0 then (
        (ldJ r3 (nI 0) h).bind fun y_268 =>
        if (lg_cmp y_268 (Int32.toInt64 x_266)) = 0 then (
          fL_law_2382 k23 r0 r1 r2 r3 v4 h)
        else
        rz (nI 0) (nI 0) h)
      else
      fL_law_2382 k23 r0 r1 r2 r3 v4 h)
    else
    rz (nI 0) (nI 0) h)
  else
  if (x_13 &&& (nI 31)) = (nI 30) then (
    cv 8 r1 (fX8_checksum r1) h fun y_269 h =>
    cv 9 r2 (fX9_checksum r2) h fun y_270 h =>
    if (lg_cmp y_269 y_270) = 0 then (
      fL_law_2382 k23 r0 r1 r2 r3 v4 h)
    else
    rz (nI 0) (nI 0) h)
  else
  fL_law_2382 k23 r0 r1 r2 r3 v4 h
def lL_law_23 : Nat → Nat → Nat → Nat → Nat → Int32 → AH → Option (Int32 × AH)
  | 0 => fun _ _ _ _ _ _ => none
  | n + 1 => bL_law_23 (lL_law_23 n)
def fL_law (r0 : Nat) : AH → Option (Int32 × AH) := fun h =>
  bd (nwO 8 h) fun a_271 h =>
  bd (fX8_init a_271 h) fun _ h =>
  bd (nwO 9 h) fun a_272 h =>
  bd (fX9_init a_272 h) fun _ h =>
  bd (nwJ (nI 1) h) fun a_273 h =>
  lL_law_23 513 r0 a_271 a_272 a_273 (nI 0) h
theorem sL_law_2382 {kc ks : Nat} {k23 : Nat → Nat → Nat → Nat → Int32 → AH → Option (Int32 × AH)} (h23 : ∀ (r0 : Nat) (r1 : Nat) (r2 : Nat) (r3 : Nat) (v4 : Int32), Sm mL_law rI kc ks 23 [some (.ref r0), some (.ref r1), some (.ref r2), some (.ref r3), some (.int v4), none, none] [] (k23 r0 r1 r2 r3 v4)) (r0 : Nat) (r1 : Nat) (r2 : Nat) (r3 : Nat) (v4 : Int32) : Sm mL_law rI kc ks 2382 [some (.ref r0), some (.ref r1), some (.ref r2), some (.ref r3), some (.int v4), none, none] [] (fL_law_2382 k23 r0 r1 r2 r3 v4) := by
  unfold fL_law_2382
  refine Z_iinc (pc := 2382) (v := (nI 6)) (lv' := [some (.ref r0), some (.ref r1), some (.ref r2), some (.ref r3), some (.int (v4 + (nI 6))), none, none]) dL_law_2382 rfl kI_6 rfl rfl rfl ?_
  refine S_goto (pc := 2385) (tgt := 23) dL_law_2385 (by decide) ?_
  exact (h23 r0 r1 r2 r3 (v4 + (nI 6)))
theorem sL_law_252 {k23 : Nat → Nat → Nat → Nat → Int32 → AH → Option (Int32 × AH)} (kc ks : Nat) (hc : kc + 0 ≤ 601024) (hs : ks + 0 ≤ 7293034) (h23 : ∀ (a b : Nat), a ≤ kc + 0 → b ≤ ks + 0 → ∀ (r0 : Nat) (r1 : Nat) (r2 : Nat) (r3 : Nat) (v4 : Int32), Sm mL_law rI a b 23 [some (.ref r0), some (.ref r1), some (.ref r2), some (.ref r3), some (.int v4), none, none] [] (k23 r0 r1 r2 r3 v4)) (r0 : Nat) (r1 : Nat) (r2 : Nat) (r3 : Nat) (v4 : Int32) (v5 : Int32) (s0 : Nat) (s1 : Int32) (s2 : Int32) (s3 : Int32) : Sm mL_law rI kc ks 252 [some (.ref r0), some (.ref r1), some (.ref r2), some (.ref r3), some (.int v4), some (.int v5), none] [.int s3, .int s2, .int s1, .ref s0] (fL_law_252 k23 r0 r1 r2 r3 v4 v5 s0 s1 s2 s3) := by
  unfold fL_law_252
  refine S_aload_n (pc := 252) dL_law_252 rfl ?_
  refine S_iload (pc := 253) dL_law_253 rfl ?_
  refine S_iconst (pc := 255) (v := (nI 4)) dL_law_255 kI_4 ?_
  refine S_iadd (pc := 256) dL_law_256 ?_
  refine S_ldS (pc := 257) dL_law_257 (fun x_1 => ?_)
  refine S_aload_n (pc := 258) dL_law_258 rfl ?_
  refine S_iload (pc := 259) dL_law_259 rfl ?_
  refine S_iconst (pc := 261) (v := (nI 5)) dL_law_261 kI_5 ?_
  refine S_iadd (pc := 262) dL_law_262 ?_
  refine S_ldS (pc := 263) dL_law_263 (fun x_2 => ?_)
  refine Y_Vi (pc := 264) (st := []) (kc' := kc) (ks' := ks) (ktX9_define s0 s1 s2 s3 x_1 x_2) mw_X9_define mv_X9_define w1419 (RO.mk rfl rfl (ble_le (show kc + 0 ≤ 601024 by omega)) (ble_le (show ks + 0 ≤ 7293034 by omega))) rfl rfl rfl dL_law_264 ⟨rfl, rfl⟩ (fun x_3 => ?_)
  refine Z_istore (pc := 267) (lv' := [some (.ref r0), some (.ref r1), some (.ref r2), some (.ref r3), some (.int v4), some (.int v5), some (.int x_3)]) dL_law_267 rfl rfl rfl ?_
  refine S_aload_n (pc := 269) dL_law_269 rfl ?_
  refine Y_Vi (pc := 270) (st := []) (kc' := kc) (ks' := ks) (ktX9_thrown r2) mw_X9_thrown mv_X9_thrown w1407 (RO.mk rfl rfl (ble_le (show kc + 0 ≤ 601024 by omega)) (ble_le (show ks + 0 ≤ 7293034 by omega))) rfl rfl rfl dL_law_270 ⟨rfl, rfl⟩ (fun x_4 => ?_)
  refine S_iload (pc := 273) dL_law_273 rfl ?_
  refine S_icmpeq (pc := 275) (tgt := 280) dL_law_275 (by decide) ?_ ?_
  · refine S_iload (pc := 280) dL_law_280 rfl ?_
    refine S_ifne (pc := 282) (tgt := 297) dL_law_282 (by decide) ?_ ?_
    · refine S_goto (pc := 297) (tgt := 2382) dL_law_297 (by decide) ?_
      exact (S_lv (lv0 := [some (.ref r0), some (.ref r1), some (.ref r2), some (.ref r3), some (.int v4), none, none]) (And.intro rfl (And.intro rfl (And.intro rfl (And.intro rfl (And.intro rfl trivial))))) (sL_law_2382 (h23 kc ks (by omega) (by omega)) r0 r1 r2 r3 v4))
    · refine S_aload_n (pc := 285) dL_law_285 rfl ?_
      refine S_iconst (pc := 286) (v := (nI 0)) dL_law_286 kI_0 ?_
      refine S_ldJ (pc := 287) dL_law_287 (fun y_5 => ?_)
      refine S_iload (pc := 288) dL_law_288 rfl ?_
      refine S_i2l (pc := 290) dL_law_290 ?_
      refine S_lcmp (pc := 291) dL_law_291 ?_
      refine S_ifeq (pc := 292) (tgt := 297) dL_law_292 (by decide) ?_ ?_
      · refine S_goto (pc := 297) (tgt := 2382) dL_law_297 (by decide) ?_
        exact (S_lv (lv0 := [some (.ref r0), some (.ref r1), some (.ref r2), some (.ref r3), some (.int v4), none, none]) (And.intro rfl (And.intro rfl (And.intro rfl (And.intro rfl (And.intro rfl trivial))))) (sL_law_2382 (h23 kc ks (by omega) (by omega)) r0 r1 r2 r3 v4))
      · refine S_iconst (pc := 295) (v := (nI 0)) dL_law_295 kI_0 ?_
        exact S_zret (pc := 296) ⟨ble_le (show _ ≤ 601024 by omega), ble_le (show _ ≤ 7293034 by omega)⟩ rfl rfl dL_law_296
  · refine S_iconst (pc := 278) (v := (nI 0)) dL_law_278 kI_0 ?_
    exact S_zret (pc := 279) ⟨ble_le (show _ ≤ 601024 by omega), ble_le (show _ ≤ 7293034 by omega)⟩ rfl rfl dL_law_279
theorem sL_law_207 {k23 : Nat → Nat → Nat → Nat → Int32 → AH → Option (Int32 × AH)} (kc ks : Nat) (hc : kc + 3 ≤ 601024) (hs : ks + 18 ≤ 7293034) (h23 : ∀ (a b : Nat), a ≤ kc + 3 → b ≤ ks + 18 → ∀ (r0 : Nat) (r1 : Nat) (r2 : Nat) (r3 : Nat) (v4 : Int32), Sm mL_law rI a b 23 [some (.ref r0), some (.ref r1), some (.ref r2), some (.ref r3), some (.int v4), none, none] [] (k23 r0 r1 r2 r3 v4)) (r0 : Nat) (r1 : Nat) (r2 : Nat) (r3 : Nat) (v4 : Int32) (s0 : Nat) (s1 : Int32) (s2 : Int32) (s3 : Int32) : Sm mL_law rI kc ks 207 [some (.ref r0), some (.ref r1), some (.ref r2), some (.ref r3), some (.int v4), none, none] [.int s3, .int s2, .int s1, .ref s0] (fL_law_207 k23 r0 r1 r2 r3 v4 s0 s1 s2 s3) := by
  unfold fL_law_207
  refine S_aload_n (pc := 207) dL_law_207 rfl ?_
  refine S_iload (pc := 208) dL_law_208 rfl ?_
  refine S_iconst (pc := 210) (v := (nI 4)) dL_law_210 kI_4 ?_
  refine S_iadd (pc := 211) dL_law_211 ?_
  refine S_ldS (pc := 212) dL_law_212 (fun x_6 => ?_)
  refine S_aload_n (pc := 213) dL_law_213 rfl ?_
  refine S_iload (pc := 214) dL_law_214 rfl ?_
  refine S_iconst (pc := 216) (v := (nI 5)) dL_law_216 kI_5 ?_
  refine S_iadd (pc := 217) dL_law_217 ?_
  refine S_ldS (pc := 218) dL_law_218 (fun x_7 => ?_)
  refine S_aload_n (pc := 219) dL_law_219 rfl ?_
  refine Y_SH (pc := 220) (st := []) (kc' := (kc + 3)) (ks' := (ks + 18)) (ktL_define s0 s1 s2 s3 x_6 x_7 r3) w680 w0 ⟨by decide, by decide⟩ (show Option.map _ (parseMethodDescriptor _) = some 7 by decide +kernel) w679 w678 (RO.mk rfl rfl (ble_le (show kc + 3 ≤ 601024 by omega)) (ble_le (show ks + 18 ≤ 7293034 by omega))) rfl rfl rfl dL_law_220 ⟨rfl, rfl⟩ (fun x_8 => ?_)
  refine Z_istore (pc := 223) (lv' := [some (.ref r0), some (.ref r1), some (.ref r2), some (.ref r3), some (.int v4), some (.int x_8), none]) dL_law_223 rfl rfl rfl ?_
  refine S_aload_n (pc := 225) dL_law_225 rfl ?_
  refine S_aload_n (pc := 226) dL_law_226 rfl ?_
  refine S_iload (pc := 227) dL_law_227 rfl ?_
  refine S_iconst (pc := 229) (v := (nI 1)) dL_law_229 kI_1 ?_
  refine S_iadd (pc := 230) dL_law_230 ?_
  refine S_ldS (pc := 231) dL_law_231 (fun x_9 => ?_)
  refine S_aload_n (pc := 232) dL_law_232 rfl ?_
  refine S_iload (pc := 233) dL_law_233 rfl ?_
  refine S_iconst (pc := 235) (v := (nI 2)) dL_law_235 kI_2 ?_
  refine S_iadd (pc := 236) dL_law_236 ?_
  refine S_ldS (pc := 237) dL_law_237 (fun x_10 => ?_)
  refine S_aload_n (pc := 238) dL_law_238 rfl ?_
  refine S_iload (pc := 239) dL_law_239 rfl ?_
  refine S_iconst (pc := 241) (v := (nI 3)) dL_law_241 kI_3 ?_
  refine S_iadd (pc := 242) dL_law_242 ?_
  refine S_ldS (pc := 243) dL_law_243 (fun x_11 => ?_)
  refine S_ifeq (pc := 244) (tgt := 251) dL_law_244 (by decide) ?_ ?_
  · refine S_iconst (pc := 251) (v := (nI 0)) dL_law_251 kI_0 ?_
    exact (sL_law_252 (kc + 3) (ks + 18) (by omega) (by omega) (fun a b ha hb => h23 a b (by omega) (by omega)) r0 r1 r2 r3 v4 x_8 r2 x_9 x_10 (nI 0))
  · refine S_iconst (pc := 247) (v := (nI 1)) dL_law_247 kI_1 ?_
    refine S_goto (pc := 248) (tgt := 252) dL_law_248 (by decide) ?_
    exact (sL_law_252 (kc + 3) (ks + 18) (by omega) (by omega) (fun a b ha hb => h23 a b (by omega) (by omega)) r0 r1 r2 r3 v4 x_8 r2 x_9 x_10 (nI 1))
theorem sL_law_526 {k23 : Nat → Nat → Nat → Nat → Int32 → AH → Option (Int32 × AH)} (kc ks : Nat) (hc : kc + 0 ≤ 601024) (hs : ks + 0 ≤ 7293034) (h23 : ∀ (a b : Nat), a ≤ kc + 0 → b ≤ ks + 0 → ∀ (r0 : Nat) (r1 : Nat) (r2 : Nat) (r3 : Nat) (v4 : Int32), Sm mL_law rI a b 23 [some (.ref r0), some (.ref r1), some (.ref r2), some (.ref r3), some (.int v4), none, none] [] (k23 r0 r1 r2 r3 v4)) (r0 : Nat) (r1 : Nat) (r2 : Nat) (r3 : Nat) (v4 : Int32) (s0 : Int64) (s1 : Int64) : Sm mL_law rI kc ks 526 [some (.ref r0), some (.ref r1), some (.ref r2), some (.ref r3), some (.int v4), none, none] [.long s1, .long s0] (fL_law_526 k23 r0 r1 r2 r3 v4 s0 s1) := by
  unfold fL_law_526
  refine S_lcmp (pc := 526) dL_law_526 ?_
  refine S_ifeq (pc := 527) (tgt := 532) dL_law_527 (by decide) ?_ ?_
  · refine S_goto (pc := 532) (tgt := 2382) dL_law_532 (by decide) ?_
    exact (sL_law_2382 (h23 kc ks (by omega) (by omega)) r0 r1 r2 r3 v4)
  · refine S_iconst (pc := 530) (v := (nI 0)) dL_law_530 kI_0 ?_
    exact S_zret (pc := 531) ⟨ble_le (show _ ≤ 601024 by omega), ble_le (show _ ≤ 7293034 by omega)⟩ rfl rfl dL_law_531
theorem sL_law_1382 {k23 : Nat → Nat → Nat → Nat → Int32 → AH → Option (Int32 × AH)} (kc ks : Nat) (hc : kc + 0 ≤ 601024) (hs : ks + 0 ≤ 7293034) (h23 : ∀ (a b : Nat), a ≤ kc + 0 → b ≤ ks + 0 → ∀ (r0 : Nat) (r1 : Nat) (r2 : Nat) (r3 : Nat) (v4 : Int32), Sm mL_law rI a b 23 [some (.ref r0), some (.ref r1), some (.ref r2), some (.ref r3), some (.int v4), none, none] [] (k23 r0 r1 r2 r3 v4)) (r0 : Nat) (r1 : Nat) (r2 : Nat) (r3 : Nat) (v4 : Int32) (s0 : Int64) (s1 : Int64) : Sm mL_law rI kc ks 1382 [some (.ref r0), some (.ref r1), some (.ref r2), some (.ref r3), some (.int v4), none, none] [.long s1, .long s0] (fL_law_1382 k23 r0 r1 r2 r3 v4 s0 s1) := by
  unfold fL_law_1382
  refine S_lcmp (pc := 1382) dL_law_1382 ?_
  refine S_ifeq (pc := 1383) (tgt := 1388) dL_law_1383 (by decide) ?_ ?_
  · refine S_goto (pc := 1388) (tgt := 2382) dL_law_1388 (by decide) ?_
    exact (sL_law_2382 (h23 kc ks (by omega) (by omega)) r0 r1 r2 r3 v4)
  · refine S_iconst (pc := 1386) (v := (nI 0)) dL_law_1386 kI_0 ?_
    exact S_zret (pc := 1387) ⟨ble_le (show _ ≤ 601024 by omega), ble_le (show _ ≤ 7293034 by omega)⟩ rfl rfl dL_law_1387
theorem sbL_law_23 {k23 : Nat → Nat → Nat → Nat → Int32 → AH → Option (Int32 × AH)} (kc ks : Nat) (hc : kc + 3 ≤ 601024) (hs : ks + 18 ≤ 7293034) (h23 : ∀ (a b : Nat), a ≤ kc + 3 → b ≤ ks + 18 → ∀ (r0 : Nat) (r1 : Nat) (r2 : Nat) (r3 : Nat) (v4 : Int32), Sm mL_law rI a b 23 [some (.ref r0), some (.ref r1), some (.ref r2), some (.ref r3), some (.int v4), none, none] [] (k23 r0 r1 r2 r3 v4)) (r0 : Nat) (r1 : Nat) (r2 : Nat) (r3 : Nat) (v4 : Int32) : Sm mL_law rI kc ks 23 [some (.ref r0), some (.ref r1), some (.ref r2), some (.ref r3), some (.int v4), none, none] [] (bL_law_23 k23 r0 r1 r2 r3 v4) := by
  unfold bL_law_23
  refine S_iload (pc := 23) dL_law_23 rfl ?_
  refine S_aload_n (pc := 25) dL_law_25 rfl ?_
  refine S_lnS (pc := 26) dL_law_26 (fun x_12 => ?_)
  refine S_bipush (pc := 27) (v := (nI 6)) dL_law_27 kB_6 ?_
  refine S_isub (pc := 29) dL_law_29 ?_
  refine S_icmpgt (pc := 30) (tgt := 2388) dL_law_30 (by decide) ?_ ?_
  · refine S_iconst (pc := 2388) (v := (nI 1)) dL_law_2388 kI_1 ?_
    exact S_zret (pc := 2389) ⟨ble_le (show _ ≤ 601024 by omega), ble_le (show _ ≤ 7293034 by omega)⟩ rfl rfl dL_law_2389
  · refine S_aload_n (pc := 33) dL_law_33 rfl ?_
    refine S_iload (pc := 34) dL_law_34 rfl ?_
    refine S_ldS (pc := 36) dL_law_36 (fun x_13 => ?_)
    refine S_bipush (pc := 37) (v := (nI 31)) dL_law_37 kB_31 ?_
    refine S_iand (pc := 39) dL_law_39 ?_
    refine S_case (x := (x_13 &&& (nI 31))) (v := (nI 0)) (fun n0 => ?_) (fun n0 => ?_)
    · refine S_tsI (pc := 40) (tgt := 180) n0 dL_law_40 (by decide) rfl (by decide) ?_
      refine S_aload_n (pc := 180) dL_law_180 rfl ?_
      refine S_aload_n (pc := 181) dL_law_181 rfl ?_
      refine S_iload (pc := 182) dL_law_182 rfl ?_
      refine S_iconst (pc := 184) (v := (nI 1)) dL_law_184 kI_1 ?_
      refine S_iadd (pc := 185) dL_law_185 ?_
      refine S_ldS (pc := 186) dL_law_186 (fun x_14 => ?_)
      refine S_aload_n (pc := 187) dL_law_187 rfl ?_
      refine S_iload (pc := 188) dL_law_188 rfl ?_
      refine S_iconst (pc := 190) (v := (nI 2)) dL_law_190 kI_2 ?_
      refine S_iadd (pc := 191) dL_law_191 ?_
      refine S_ldS (pc := 192) dL_law_192 (fun x_15 => ?_)
      refine S_aload_n (pc := 193) dL_law_193 rfl ?_
      refine S_iload (pc := 194) dL_law_194 rfl ?_
      refine S_iconst (pc := 196) (v := (nI 3)) dL_law_196 kI_3 ?_
      refine S_iadd (pc := 197) dL_law_197 ?_
      refine S_ldS (pc := 198) dL_law_198 (fun x_16 => ?_)
      refine S_ifeq (pc := 199) (tgt := 206) dL_law_199 (by decide) ?_ ?_
      · refine S_iconst (pc := 206) (v := (nI 0)) dL_law_206 kI_0 ?_
        exact (sL_law_207 kc ks (by omega) (by omega) (fun a b ha hb => h23 a b (by omega) (by omega)) r0 r1 r2 r3 v4 r1 x_14 x_15 (nI 0))
      · refine S_iconst (pc := 202) (v := (nI 1)) dL_law_202 kI_1 ?_
        refine S_goto (pc := 203) (tgt := 207) dL_law_203 (by decide) ?_
        exact (sL_law_207 kc ks (by omega) (by omega) (fun a b ha hb => h23 a b (by omega) (by omega)) r0 r1 r2 r3 v4 r1 x_14 x_15 (nI 1))
    refine S_case (x := (x_13 &&& (nI 31))) (v := (nI 1)) (fun n1 => ?_) (fun n1 => ?_)
    · refine S_tsI (pc := 40) (tgt := 300) n1 dL_law_40 (by decide) rfl (by decide) ?_
      refine S_aload_n (pc := 300) dL_law_300 rfl ?_
      refine S_aload_n (pc := 301) dL_law_301 rfl ?_
      refine S_iload (pc := 302) dL_law_302 rfl ?_
      refine S_iconst (pc := 304) (v := (nI 1)) dL_law_304 kI_1 ?_
      refine S_iadd (pc := 305) dL_law_305 ?_
      refine S_ldS (pc := 306) dL_law_306 (fun x_17 => ?_)
      refine S_aload_n (pc := 307) dL_law_307 rfl ?_
      refine S_iload (pc := 308) dL_law_308 rfl ?_
      refine S_iconst (pc := 310) (v := (nI 2)) dL_law_310 kI_2 ?_
      refine S_iadd (pc := 311) dL_law_311 ?_
      refine S_ldS (pc := 312) dL_law_312 (fun x_18 => ?_)
      refine S_aload_n (pc := 313) dL_law_313 rfl ?_
      refine Y_SH (pc := 314) (st := []) (kc' := (kc + 3)) (ks' := (ks + 18)) (ktL_removeClass r1 x_17 x_18 r3) w814 w0 ⟨by decide, by decide⟩ (show Option.map _ (parseMethodDescriptor _) = some 4 by decide +kernel) w813 w812 (RO.mk rfl rfl (ble_le (show kc + 3 ≤ 601024 by omega)) (ble_le (show ks + 18 ≤ 7293034 by omega))) rfl rfl rfl dL_law_314 ⟨rfl, rfl⟩ (fun x_19 => ?_)
      refine Z_istore (pc := 317) (lv' := [some (.ref r0), some (.ref r1), some (.ref r2), some (.ref r3), some (.int v4), some (.int x_19), none]) dL_law_317 rfl rfl rfl ?_
      refine S_aload_n (pc := 319) dL_law_319 rfl ?_
      refine S_aload_n (pc := 320) dL_law_320 rfl ?_
      refine S_iload (pc := 321) dL_law_321 rfl ?_
      refine S_iconst (pc := 323) (v := (nI 1)) dL_law_323 kI_1 ?_
      refine S_iadd (pc := 324) dL_law_324 ?_
      refine S_ldS (pc := 325) dL_law_325 (fun x_20 => ?_)
      refine S_aload_n (pc := 326) dL_law_326 rfl ?_
      refine S_iload (pc := 327) dL_law_327 rfl ?_
      refine S_iconst (pc := 329) (v := (nI 2)) dL_law_329 kI_2 ?_
      refine S_iadd (pc := 330) dL_law_330 ?_
      refine S_ldS (pc := 331) dL_law_331 (fun x_21 => ?_)
      refine Y_Vi (pc := 332) (st := []) (kc' := (kc + 3)) (ks' := (ks + 18)) (ktX9_removeClass r2 x_20 x_21) mw_X9_removeClass mv_X9_removeClass w1439 (RO.mk rfl rfl (ble_le (show (kc + 3) + 0 ≤ 601024 by omega)) (ble_le (show (ks + 18) + 0 ≤ 7293034 by omega))) rfl rfl rfl dL_law_332 ⟨rfl, rfl⟩ (fun x_22 => ?_)
      refine Z_istore (pc := 335) (lv' := [some (.ref r0), some (.ref r1), some (.ref r2), some (.ref r3), some (.int v4), some (.int x_19), some (.int x_22)]) dL_law_335 rfl rfl rfl ?_
      refine S_aload_n (pc := 337) dL_law_337 rfl ?_
      refine Y_Vi (pc := 338) (st := []) (kc' := (kc + 3)) (ks' := (ks + 18)) (ktX9_thrown r2) mw_X9_thrown mv_X9_thrown w1407 (RO.mk rfl rfl (ble_le (show (kc + 3) + 0 ≤ 601024 by omega)) (ble_le (show (ks + 18) + 0 ≤ 7293034 by omega))) rfl rfl rfl dL_law_338 ⟨rfl, rfl⟩ (fun x_23 => ?_)
      refine S_iload (pc := 341) dL_law_341 rfl ?_
      refine S_icmpeq (pc := 343) (tgt := 348) dL_law_343 (by decide) ?_ ?_
      · refine S_iload (pc := 348) dL_law_348 rfl ?_
        refine S_ifne (pc := 350) (tgt := 365) dL_law_350 (by decide) ?_ ?_
        · refine S_goto (pc := 365) (tgt := 2382) dL_law_365 (by decide) ?_
          exact (S_lv (lv0 := [some (.ref r0), some (.ref r1), some (.ref r2), some (.ref r3), some (.int v4), none, none]) (And.intro rfl (And.intro rfl (And.intro rfl (And.intro rfl (And.intro rfl trivial))))) (sL_law_2382 (h23 (kc + 3) (ks + 18) (by omega) (by omega)) r0 r1 r2 r3 v4))
        · refine S_aload_n (pc := 353) dL_law_353 rfl ?_
          refine S_iconst (pc := 354) (v := (nI 0)) dL_law_354 kI_0 ?_
          refine S_ldJ (pc := 355) dL_law_355 (fun y_24 => ?_)
          refine S_iload (pc := 356) dL_law_356 rfl ?_
          refine S_i2l (pc := 358) dL_law_358 ?_
          refine S_lcmp (pc := 359) dL_law_359 ?_
          refine S_ifeq (pc := 360) (tgt := 365) dL_law_360 (by decide) ?_ ?_
          · refine S_goto (pc := 365) (tgt := 2382) dL_law_365 (by decide) ?_
            exact (S_lv (lv0 := [some (.ref r0), some (.ref r1), some (.ref r2), some (.ref r3), some (.int v4), none, none]) (And.intro rfl (And.intro rfl (And.intro rfl (And.intro rfl (And.intro rfl trivial))))) (sL_law_2382 (h23 (kc + 3) (ks + 18) (by omega) (by omega)) r0 r1 r2 r3 v4))
          · refine S_iconst (pc := 363) (v := (nI 0)) dL_law_363 kI_0 ?_
            exact S_zret (pc := 364) ⟨ble_le (show _ ≤ 601024 by omega), ble_le (show _ ≤ 7293034 by omega)⟩ rfl rfl dL_law_364
      · refine S_iconst (pc := 346) (v := (nI 0)) dL_law_346 kI_0 ?_
        exact S_zret (pc := 347) ⟨ble_le (show _ ≤ 601024 by omega), ble_le (show _ ≤ 7293034 by omega)⟩ rfl rfl dL_law_347
    refine S_case (x := (x_13 &&& (nI 31))) (v := (nI 2)) (fun n2 => ?_) (fun n2 => ?_)
    · refine S_tsI (pc := 40) (tgt := 368) n2 dL_law_40 (by decide) rfl (by decide) ?_
      refine S_aload_n (pc := 368) dL_law_368 rfl ?_
      refine S_aload_n (pc := 369) dL_law_369 rfl ?_
      refine S_iload (pc := 370) dL_law_370 rfl ?_
      refine S_iconst (pc := 372) (v := (nI 1)) dL_law_372 kI_1 ?_
      refine S_iadd (pc := 373) dL_law_373 ?_
      refine S_ldS (pc := 374) dL_law_374 (fun x_25 => ?_)
      refine S_aload_n (pc := 375) dL_law_375 rfl ?_
      refine S_iload (pc := 376) dL_law_376 rfl ?_
      refine S_iconst (pc := 378) (v := (nI 2)) dL_law_378 kI_2 ?_
      refine S_iadd (pc := 379) dL_law_379 ?_
      refine S_ldS (pc := 380) dL_law_380 (fun x_26 => ?_)
      refine S_aload_n (pc := 381) dL_law_381 rfl ?_
      refine S_iload (pc := 382) dL_law_382 rfl ?_
      refine S_iconst (pc := 384) (v := (nI 3)) dL_law_384 kI_3 ?_
      refine S_iadd (pc := 385) dL_law_385 ?_
      refine S_ldS (pc := 386) dL_law_386 (fun x_27 => ?_)
      refine S_aload_n (pc := 387) dL_law_387 rfl ?_
      refine S_iload (pc := 388) dL_law_388 rfl ?_
      refine S_iconst (pc := 390) (v := (nI 4)) dL_law_390 kI_4 ?_
      refine S_iadd (pc := 391) dL_law_391 ?_
      refine S_ldS (pc := 392) dL_law_392 (fun x_28 => ?_)
      refine S_aload_n (pc := 393) dL_law_393 rfl ?_
      refine Y_SH (pc := 394) (st := []) (kc' := (kc + 3)) (ks' := (ks + 18)) (ktL_setClass r1 x_25 x_26 x_27 x_28 r3) w845 w0 ⟨by decide, by decide⟩ (show Option.map _ (parseMethodDescriptor _) = some 6 by decide +kernel) w844 w843 (RO.mk rfl rfl (ble_le (show kc + 3 ≤ 601024 by omega)) (ble_le (show ks + 18 ≤ 7293034 by omega))) rfl rfl rfl dL_law_394 ⟨rfl, rfl⟩ (fun x_29 => ?_)
      refine Z_istore (pc := 397) (lv' := [some (.ref r0), some (.ref r1), some (.ref r2), some (.ref r3), some (.int v4), some (.int x_29), none]) dL_law_397 rfl rfl rfl ?_
      refine S_aload_n (pc := 399) dL_law_399 rfl ?_
      refine S_aload_n (pc := 400) dL_law_400 rfl ?_
      refine S_iload (pc := 401) dL_law_401 rfl ?_
      refine S_iconst (pc := 403) (v := (nI 1)) dL_law_403 kI_1 ?_
      refine S_iadd (pc := 404) dL_law_404 ?_
      refine S_ldS (pc := 405) dL_law_405 (fun x_30 => ?_)
      refine S_aload_n (pc := 406) dL_law_406 rfl ?_
      refine S_iload (pc := 407) dL_law_407 rfl ?_
      refine S_iconst (pc := 409) (v := (nI 2)) dL_law_409 kI_2 ?_
      refine S_iadd (pc := 410) dL_law_410 ?_
      refine S_ldS (pc := 411) dL_law_411 (fun x_31 => ?_)
      refine S_aload_n (pc := 412) dL_law_412 rfl ?_
      refine S_iload (pc := 413) dL_law_413 rfl ?_
      refine S_iconst (pc := 415) (v := (nI 3)) dL_law_415 kI_3 ?_
      refine S_iadd (pc := 416) dL_law_416 ?_
      refine S_ldS (pc := 417) dL_law_417 (fun x_32 => ?_)
      refine S_aload_n (pc := 418) dL_law_418 rfl ?_
      refine S_iload (pc := 419) dL_law_419 rfl ?_
      refine S_iconst (pc := 421) (v := (nI 4)) dL_law_421 kI_4 ?_
      refine S_iadd (pc := 422) dL_law_422 ?_
      refine S_ldS (pc := 423) dL_law_423 (fun x_33 => ?_)
      refine Y_Vi (pc := 424) (st := []) (kc' := (kc + 3)) (ks' := (ks + 18)) (ktX9_setClass r2 x_30 x_31 x_32 x_33) mw_X9_setClass mv_X9_setClass w1451 (RO.mk rfl rfl (ble_le (show (kc + 3) + 0 ≤ 601024 by omega)) (ble_le (show (ks + 18) + 0 ≤ 7293034 by omega))) rfl rfl rfl dL_law_424 ⟨rfl, rfl⟩ (fun x_34 => ?_)
      refine Z_istore (pc := 427) (lv' := [some (.ref r0), some (.ref r1), some (.ref r2), some (.ref r3), some (.int v4), some (.int x_29), some (.int x_34)]) dL_law_427 rfl rfl rfl ?_
      refine S_aload_n (pc := 429) dL_law_429 rfl ?_
      refine Y_Vi (pc := 430) (st := []) (kc' := (kc + 3)) (ks' := (ks + 18)) (ktX9_thrown r2) mw_X9_thrown mv_X9_thrown w1407 (RO.mk rfl rfl (ble_le (show (kc + 3) + 0 ≤ 601024 by omega)) (ble_le (show (ks + 18) + 0 ≤ 7293034 by omega))) rfl rfl rfl dL_law_430 ⟨rfl, rfl⟩ (fun x_35 => ?_)
      refine S_iload (pc := 433) dL_law_433 rfl ?_
      refine S_icmpeq (pc := 435) (tgt := 440) dL_law_435 (by decide) ?_ ?_
      · refine S_iload (pc := 440) dL_law_440 rfl ?_
        refine S_ifne (pc := 442) (tgt := 457) dL_law_442 (by decide) ?_ ?_
        · refine S_goto (pc := 457) (tgt := 2382) dL_law_457 (by decide) ?_
          exact (S_lv (lv0 := [some (.ref r0), some (.ref r1), some (.ref r2), some (.ref r3), some (.int v4), none, none]) (And.intro rfl (And.intro rfl (And.intro rfl (And.intro rfl (And.intro rfl trivial))))) (sL_law_2382 (h23 (kc + 3) (ks + 18) (by omega) (by omega)) r0 r1 r2 r3 v4))
        · refine S_aload_n (pc := 445) dL_law_445 rfl ?_
          refine S_iconst (pc := 446) (v := (nI 0)) dL_law_446 kI_0 ?_
          refine S_ldJ (pc := 447) dL_law_447 (fun y_36 => ?_)
          refine S_iload (pc := 448) dL_law_448 rfl ?_
          refine S_i2l (pc := 450) dL_law_450 ?_
          refine S_lcmp (pc := 451) dL_law_451 ?_
          refine S_ifeq (pc := 452) (tgt := 457) dL_law_452 (by decide) ?_ ?_
          · refine S_goto (pc := 457) (tgt := 2382) dL_law_457 (by decide) ?_
            exact (S_lv (lv0 := [some (.ref r0), some (.ref r1), some (.ref r2), some (.ref r3), some (.int v4), none, none]) (And.intro rfl (And.intro rfl (And.intro rfl (And.intro rfl (And.intro rfl trivial))))) (sL_law_2382 (h23 (kc + 3) (ks + 18) (by omega) (by omega)) r0 r1 r2 r3 v4))
          · refine S_iconst (pc := 455) (v := (nI 0)) dL_law_455 kI_0 ?_
            exact S_zret (pc := 456) ⟨ble_le (show _ ≤ 601024 by omega), ble_le (show _ ≤ 7293034 by omega)⟩ rfl rfl dL_law_456
      · refine S_iconst (pc := 438) (v := (nI 0)) dL_law_438 kI_0 ?_
        exact S_zret (pc := 439) ⟨ble_le (show _ ≤ 601024 by omega), ble_le (show _ ≤ 7293034 by omega)⟩ rfl rfl dL_law_439
    refine S_case (x := (x_13 &&& (nI 31))) (v := (nI 3)) (fun n3 => ?_) (fun n3 => ?_)
    · refine S_tsI (pc := 40) (tgt := 460) n3 dL_law_40 (by decide) rfl (by decide) ?_
      refine S_aload_n (pc := 460) dL_law_460 rfl ?_
      refine S_aload_n (pc := 461) dL_law_461 rfl ?_
      refine S_iload (pc := 462) dL_law_462 rfl ?_
      refine S_iconst (pc := 464) (v := (nI 1)) dL_law_464 kI_1 ?_
      refine S_iadd (pc := 465) dL_law_465 ?_
      refine S_ldS (pc := 466) dL_law_466 (fun x_37 => ?_)
      refine S_aload_n (pc := 467) dL_law_467 rfl ?_
      refine S_iload (pc := 468) dL_law_468 rfl ?_
      refine S_iconst (pc := 470) (v := (nI 2)) dL_law_470 kI_2 ?_
      refine S_iadd (pc := 471) dL_law_471 ?_
      refine S_ldS (pc := 472) dL_law_472 (fun x_38 => ?_)
      refine S_aload_n (pc := 473) dL_law_473 rfl ?_
      refine Y_SH (pc := 474) (st := []) (kc' := (kc + 3)) (ks' := (ks + 18)) (ktL_exists r1 x_37 x_38 r3) w866 w0 ⟨by decide, by decide⟩ (show Option.map _ (parseMethodDescriptor _) = some 4 by decide +kernel) w865 w864 (RO.mk rfl rfl (ble_le (show kc + 3 ≤ 601024 by omega)) (ble_le (show ks + 18 ≤ 7293034 by omega))) rfl rfl rfl dL_law_474 ⟨rfl, rfl⟩ (fun x_39 => ?_)
      refine Z_istore (pc := 477) (lv' := [some (.ref r0), some (.ref r1), some (.ref r2), some (.ref r3), some (.int v4), some (.int x_39), none]) dL_law_477 rfl rfl rfl ?_
      refine S_aload_n (pc := 479) dL_law_479 rfl ?_
      refine S_aload_n (pc := 480) dL_law_480 rfl ?_
      refine S_iload (pc := 481) dL_law_481 rfl ?_
      refine S_iconst (pc := 483) (v := (nI 1)) dL_law_483 kI_1 ?_
      refine S_iadd (pc := 484) dL_law_484 ?_
      refine S_ldS (pc := 485) dL_law_485 (fun x_40 => ?_)
      refine S_aload_n (pc := 486) dL_law_486 rfl ?_
      refine S_iload (pc := 487) dL_law_487 rfl ?_
      refine S_iconst (pc := 489) (v := (nI 2)) dL_law_489 kI_2 ?_
      refine S_iadd (pc := 490) dL_law_490 ?_
      refine S_ldS (pc := 491) dL_law_491 (fun x_41 => ?_)
      refine Y_Vi (pc := 492) (st := []) (kc' := (kc + 3)) (ks' := (ks + 18)) (ktX9_exists r2 x_40 x_41) mw_X9_exists mv_X9_exists w1470 (RO.mk rfl rfl (ble_le (show (kc + 3) + 0 ≤ 601024 by omega)) (ble_le (show (ks + 18) + 0 ≤ 7293034 by omega))) rfl rfl rfl dL_law_492 ⟨rfl, rfl⟩ (fun x_42 => ?_)
      refine Z_istore (pc := 495) (lv' := [some (.ref r0), some (.ref r1), some (.ref r2), some (.ref r3), some (.int v4), some (.int x_39), some (.int x_42)]) dL_law_495 rfl rfl rfl ?_
      refine S_aload_n (pc := 497) dL_law_497 rfl ?_
      refine Y_Vi (pc := 498) (st := []) (kc' := (kc + 3)) (ks' := (ks + 18)) (ktX9_thrown r2) mw_X9_thrown mv_X9_thrown w1407 (RO.mk rfl rfl (ble_le (show (kc + 3) + 0 ≤ 601024 by omega)) (ble_le (show (ks + 18) + 0 ≤ 7293034 by omega))) rfl rfl rfl dL_law_498 ⟨rfl, rfl⟩ (fun x_43 => ?_)
      refine S_iload (pc := 501) dL_law_501 rfl ?_
      refine S_icmpeq (pc := 503) (tgt := 508) dL_law_503 (by decide) ?_ ?_
      · refine S_iload (pc := 508) dL_law_508 rfl ?_
        refine S_ifne (pc := 510) (tgt := 532) dL_law_510 (by decide) ?_ ?_
        · refine S_goto (pc := 532) (tgt := 2382) dL_law_532 (by decide) ?_
          exact (S_lv (lv0 := [some (.ref r0), some (.ref r1), some (.ref r2), some (.ref r3), some (.int v4), none, none]) (And.intro rfl (And.intro rfl (And.intro rfl (And.intro rfl (And.intro rfl trivial))))) (sL_law_2382 (h23 (kc + 3) (ks + 18) (by omega) (by omega)) r0 r1 r2 r3 v4))
        · refine S_aload_n (pc := 513) dL_law_513 rfl ?_
          refine S_iconst (pc := 514) (v := (nI 0)) dL_law_514 kI_0 ?_
          refine S_ldJ (pc := 515) dL_law_515 (fun y_44 => ?_)
          refine S_iload (pc := 516) dL_law_516 rfl ?_
          refine S_ifeq (pc := 518) (tgt := 525) dL_law_518 (by decide) ?_ ?_
          · refine S_lconst (pc := 525) (v := (0 : Int64)) dL_law_525 rfl ?_
            exact (S_lv (lv0 := [some (.ref r0), some (.ref r1), some (.ref r2), some (.ref r3), some (.int v4), none, none]) (And.intro rfl (And.intro rfl (And.intro rfl (And.intro rfl (And.intro rfl trivial))))) (sL_law_526 (kc + 3) (ks + 18) (by omega) (by omega) (fun a b ha hb => h23 a b (by omega) (by omega)) r0 r1 r2 r3 v4 y_44 (0 : Int64)))
          · refine S_lconst (pc := 521) (v := (1 : Int64)) dL_law_521 rfl ?_
            refine S_goto (pc := 522) (tgt := 526) dL_law_522 (by decide) ?_
            exact (S_lv (lv0 := [some (.ref r0), some (.ref r1), some (.ref r2), some (.ref r3), some (.int v4), none, none]) (And.intro rfl (And.intro rfl (And.intro rfl (And.intro rfl (And.intro rfl trivial))))) (sL_law_526 (kc + 3) (ks + 18) (by omega) (by omega) (fun a b ha hb => h23 a b (by omega) (by omega)) r0 r1 r2 r3 v4 y_44 (1 : Int64)))
      · refine S_iconst (pc := 506) (v := (nI 0)) dL_law_506 kI_0 ?_
        exact S_zret (pc := 507) ⟨ble_le (show _ ≤ 601024 by omega), ble_le (show _ ≤ 7293034 by omega)⟩ rfl rfl dL_law_507
    refine S_case (x := (x_13 &&& (nI 31))) (v := (nI 4)) (fun n4 => ?_) (fun n4 => ?_)
    · refine S_tsI (pc := 40) (tgt := 535) n4 dL_law_40 (by decide) rfl (by decide) ?_
      refine S_aload_n (pc := 535) dL_law_535 rfl ?_
      refine S_aload_n (pc := 536) dL_law_536 rfl ?_
      refine S_iload (pc := 537) dL_law_537 rfl ?_
      refine S_iconst (pc := 539) (v := (nI 1)) dL_law_539 kI_1 ?_
      refine S_iadd (pc := 540) dL_law_540 ?_
      refine S_ldS (pc := 541) dL_law_541 (fun x_45 => ?_)
      refine S_aload_n (pc := 542) dL_law_542 rfl ?_
      refine S_iload (pc := 543) dL_law_543 rfl ?_
      refine S_iconst (pc := 545) (v := (nI 2)) dL_law_545 kI_2 ?_
      refine S_iadd (pc := 546) dL_law_546 ?_
      refine S_ldS (pc := 547) dL_law_547 (fun x_46 => ?_)
      refine S_aload_n (pc := 548) dL_law_548 rfl ?_
      refine S_iload (pc := 549) dL_law_549 rfl ?_
      refine S_iconst (pc := 551) (v := (nI 3)) dL_law_551 kI_3 ?_
      refine S_iadd (pc := 552) dL_law_552 ?_
      refine S_ldS (pc := 553) dL_law_553 (fun x_47 => ?_)
      refine S_aload_n (pc := 554) dL_law_554 rfl ?_
      refine Y_SH (pc := 555) (st := []) (kc' := (kc + 3)) (ks' := (ks + 18)) (ktL_classInfo r1 x_45 x_46 x_47 r3) w874 w0 ⟨by decide, by decide⟩ (show Option.map _ (parseMethodDescriptor _) = some 5 by decide +kernel) w873 w872 (RO.mk rfl rfl (ble_le (show kc + 3 ≤ 601024 by omega)) (ble_le (show ks + 18 ≤ 7293034 by omega))) rfl rfl rfl dL_law_555 ⟨rfl, rfl⟩ (fun x_48 => ?_)
      refine Z_istore (pc := 558) (lv' := [some (.ref r0), some (.ref r1), some (.ref r2), some (.ref r3), some (.int v4), some (.int x_48), none]) dL_law_558 rfl rfl rfl ?_
      refine S_aload_n (pc := 560) dL_law_560 rfl ?_
      refine S_aload_n (pc := 561) dL_law_561 rfl ?_
      refine S_iload (pc := 562) dL_law_562 rfl ?_
      refine S_iconst (pc := 564) (v := (nI 1)) dL_law_564 kI_1 ?_
      refine S_iadd (pc := 565) dL_law_565 ?_
      refine S_ldS (pc := 566) dL_law_566 (fun x_49 => ?_)
      refine S_aload_n (pc := 567) dL_law_567 rfl ?_
      refine S_iload (pc := 568) dL_law_568 rfl ?_
      refine S_iconst (pc := 570) (v := (nI 2)) dL_law_570 kI_2 ?_
      refine S_iadd (pc := 571) dL_law_571 ?_
      refine S_ldS (pc := 572) dL_law_572 (fun x_50 => ?_)
      refine S_aload_n (pc := 573) dL_law_573 rfl ?_
      refine S_iload (pc := 574) dL_law_574 rfl ?_
      refine S_iconst (pc := 576) (v := (nI 3)) dL_law_576 kI_3 ?_
      refine S_iadd (pc := 577) dL_law_577 ?_
      refine S_ldS (pc := 578) dL_law_578 (fun x_51 => ?_)
      refine Y_Vi (pc := 579) (st := []) (kc' := (kc + 3)) (ks' := (ks + 18)) (ktX9_classInfo r2 x_49 x_50 x_51) mw_X9_classInfo mv_X9_classInfo w1474 (RO.mk rfl rfl (ble_le (show (kc + 3) + 0 ≤ 601024 by omega)) (ble_le (show (ks + 18) + 0 ≤ 7293034 by omega))) rfl rfl rfl dL_law_579 ⟨rfl, rfl⟩ (fun x_52 => ?_)
      refine Z_istore (pc := 582) (lv' := [some (.ref r0), some (.ref r1), some (.ref r2), some (.ref r3), some (.int v4), some (.int x_48), some (.int x_52)]) dL_law_582 rfl rfl rfl ?_
      refine S_aload_n (pc := 584) dL_law_584 rfl ?_
      refine Y_Vi (pc := 585) (st := []) (kc' := (kc + 3)) (ks' := (ks + 18)) (ktX9_thrown r2) mw_X9_thrown mv_X9_thrown w1407 (RO.mk rfl rfl (ble_le (show (kc + 3) + 0 ≤ 601024 by omega)) (ble_le (show (ks + 18) + 0 ≤ 7293034 by omega))) rfl rfl rfl dL_law_585 ⟨rfl, rfl⟩ (fun x_53 => ?_)
      refine S_iload (pc := 588) dL_law_588 rfl ?_
      refine S_icmpeq (pc := 590) (tgt := 595) dL_law_590 (by decide) ?_ ?_
      · refine S_iload (pc := 595) dL_law_595 rfl ?_
        refine S_ifne (pc := 597) (tgt := 612) dL_law_597 (by decide) ?_ ?_
        · refine S_goto (pc := 612) (tgt := 2382) dL_law_612 (by decide) ?_
          exact (S_lv (lv0 := [some (.ref r0), some (.ref r1), some (.ref r2), some (.ref r3), some (.int v4), none, none]) (And.intro rfl (And.intro rfl (And.intro rfl (And.intro rfl (And.intro rfl trivial))))) (sL_law_2382 (h23 (kc + 3) (ks + 18) (by omega) (by omega)) r0 r1 r2 r3 v4))
        · refine S_aload_n (pc := 600) dL_law_600 rfl ?_
          refine S_iconst (pc := 601) (v := (nI 0)) dL_law_601 kI_0 ?_
          refine S_ldJ (pc := 602) dL_law_602 (fun y_54 => ?_)
          refine S_iload (pc := 603) dL_law_603 rfl ?_
          refine S_i2l (pc := 605) dL_law_605 ?_
          refine S_lcmp (pc := 606) dL_law_606 ?_
          refine S_ifeq (pc := 607) (tgt := 612) dL_law_607 (by decide) ?_ ?_
          · refine S_goto (pc := 612) (tgt := 2382) dL_law_612 (by decide) ?_
            exact (S_lv (lv0 := [some (.ref r0), some (.ref r1), some (.ref r2), some (.ref r3), some (.int v4), none, none]) (And.intro rfl (And.intro rfl (And.intro rfl (And.intro rfl (And.intro rfl trivial))))) (sL_law_2382 (h23 (kc + 3) (ks + 18) (by omega) (by omega)) r0 r1 r2 r3 v4))
          · refine S_iconst (pc := 610) (v := (nI 0)) dL_law_610 kI_0 ?_
            exact S_zret (pc := 611) ⟨ble_le (show _ ≤ 601024 by omega), ble_le (show _ ≤ 7293034 by omega)⟩ rfl rfl dL_law_611
      · refine S_iconst (pc := 593) (v := (nI 0)) dL_law_593 kI_0 ?_
        exact S_zret (pc := 594) ⟨ble_le (show _ ≤ 601024 by omega), ble_le (show _ ≤ 7293034 by omega)⟩ rfl rfl dL_law_594
    refine S_case (x := (x_13 &&& (nI 31))) (v := (nI 5)) (fun n5 => ?_) (fun n5 => ?_)
    · refine S_tsI (pc := 40) (tgt := 615) n5 dL_law_40 (by decide) rfl (by decide) ?_
      refine S_aload_n (pc := 615) dL_law_615 rfl ?_
      refine Y_Vi (pc := 616) (st := []) (kc' := kc) (ks' := ks) (ktX8_copyVersion r1) mw_X8_copyVersion mv_X8_copyVersion w572 (RO.mk rfl rfl (ble_le (show kc + 0 ≤ 601024 by omega)) (ble_le (show ks + 0 ≤ 7293034 by omega))) rfl rfl rfl dL_law_616 ⟨rfl, rfl⟩ (fun x_55 => ?_)
      refine S_aload_n (pc := 619) dL_law_619 rfl ?_
      refine Y_Vi (pc := 620) (st := [.int x_55]) (kc' := kc) (ks' := ks) (ktX9_copyVersion r2) mw_X9_copyVersion mv_X9_copyVersion w1482 (RO.mk rfl rfl (ble_le (show kc + 0 ≤ 601024 by omega)) (ble_le (show ks + 0 ≤ 7293034 by omega))) rfl rfl rfl dL_law_620 ⟨rfl, rfl⟩ (fun x_56 => ?_)
      refine S_icmpeq (pc := 623) (tgt := 2382) dL_law_623 (by decide) ?_ ?_
      · exact (sL_law_2382 (h23 kc ks (by omega) (by omega)) r0 r1 r2 r3 v4)
      · refine S_iconst (pc := 626) (v := (nI 0)) dL_law_626 kI_0 ?_
        exact S_zret (pc := 627) ⟨ble_le (show _ ≤ 601024 by omega), ble_le (show _ ≤ 7293034 by omega)⟩ rfl rfl dL_law_627
    refine S_case (x := (x_13 &&& (nI 31))) (v := (nI 6)) (fun n6 => ?_) (fun n6 => ?_)
    · refine S_tsI (pc := 40) (tgt := 628) n6 dL_law_40 (by decide) rfl (by decide) ?_
      refine S_aload_n (pc := 628) dL_law_628 rfl ?_
      refine S_aload_n (pc := 629) dL_law_629 rfl ?_
      refine S_iload (pc := 630) dL_law_630 rfl ?_
      refine S_iconst (pc := 632) (v := (nI 1)) dL_law_632 kI_1 ?_
      refine S_iadd (pc := 633) dL_law_633 ?_
      refine S_ldS (pc := 634) dL_law_634 (fun x_57 => ?_)
      refine S_aload_n (pc := 635) dL_law_635 rfl ?_
      refine S_iload (pc := 636) dL_law_636 rfl ?_
      refine S_iconst (pc := 638) (v := (nI 2)) dL_law_638 kI_2 ?_
      refine S_iadd (pc := 639) dL_law_639 ?_
      refine S_ldS (pc := 640) dL_law_640 (fun x_58 => ?_)
      refine S_aload_n (pc := 641) dL_law_641 rfl ?_
      refine S_iload (pc := 642) dL_law_642 rfl ?_
      refine S_iconst (pc := 644) (v := (nI 3)) dL_law_644 kI_3 ?_
      refine S_iadd (pc := 645) dL_law_645 ?_
      refine S_ldS (pc := 646) dL_law_646 (fun x_59 => ?_)
      refine S_aload_n (pc := 647) dL_law_647 rfl ?_
      refine S_iload (pc := 648) dL_law_648 rfl ?_
      refine S_iconst (pc := 650) (v := (nI 4)) dL_law_650 kI_4 ?_
      refine S_iadd (pc := 651) dL_law_651 ?_
      refine S_ldS (pc := 652) dL_law_652 (fun x_60 => ?_)
      refine S_aload_n (pc := 653) dL_law_653 rfl ?_
      refine Y_SH (pc := 654) (st := []) (kc' := (kc + 3)) (ks' := (ks + 18)) (ktL_draft r1 x_57 x_58 x_59 x_60 r3) w885 w0 ⟨by decide, by decide⟩ (show Option.map _ (parseMethodDescriptor _) = some 6 by decide +kernel) w884 w883 (RO.mk rfl rfl (ble_le (show kc + 3 ≤ 601024 by omega)) (ble_le (show ks + 18 ≤ 7293034 by omega))) rfl rfl rfl dL_law_654 ⟨rfl, rfl⟩ (fun x_61 => ?_)
      refine Z_istore (pc := 657) (lv' := [some (.ref r0), some (.ref r1), some (.ref r2), some (.ref r3), some (.int v4), some (.int x_61), none]) dL_law_657 rfl rfl rfl ?_
      refine S_aload_n (pc := 659) dL_law_659 rfl ?_
      refine S_aload_n (pc := 660) dL_law_660 rfl ?_
      refine S_iload (pc := 661) dL_law_661 rfl ?_
      refine S_iconst (pc := 663) (v := (nI 1)) dL_law_663 kI_1 ?_
      refine S_iadd (pc := 664) dL_law_664 ?_
      refine S_ldS (pc := 665) dL_law_665 (fun x_62 => ?_)
      refine S_aload_n (pc := 666) dL_law_666 rfl ?_
      refine S_iload (pc := 667) dL_law_667 rfl ?_
      refine S_iconst (pc := 669) (v := (nI 2)) dL_law_669 kI_2 ?_
      refine S_iadd (pc := 670) dL_law_670 ?_
      refine S_ldS (pc := 671) dL_law_671 (fun x_63 => ?_)
      refine S_aload_n (pc := 672) dL_law_672 rfl ?_
      refine S_iload (pc := 673) dL_law_673 rfl ?_
      refine S_iconst (pc := 675) (v := (nI 3)) dL_law_675 kI_3 ?_
      refine S_iadd (pc := 676) dL_law_676 ?_
      refine S_ldS (pc := 677) dL_law_677 (fun x_64 => ?_)
      refine S_aload_n (pc := 678) dL_law_678 rfl ?_
      refine S_iload (pc := 679) dL_law_679 rfl ?_
      refine S_iconst (pc := 681) (v := (nI 4)) dL_law_681 kI_4 ?_
      refine S_iadd (pc := 682) dL_law_682 ?_
      refine S_ldS (pc := 683) dL_law_683 (fun x_65 => ?_)
      refine Y_Vi (pc := 684) (st := []) (kc' := (kc + 3)) (ks' := (ks + 18)) (ktX9_draft r2 x_62 x_63 x_64 x_65) mw_X9_draft mv_X9_draft w1486 (RO.mk rfl rfl (ble_le (show (kc + 3) + 0 ≤ 601024 by omega)) (ble_le (show (ks + 18) + 0 ≤ 7293034 by omega))) rfl rfl rfl dL_law_684 ⟨rfl, rfl⟩ (fun x_66 => ?_)
      refine Z_istore (pc := 687) (lv' := [some (.ref r0), some (.ref r1), some (.ref r2), some (.ref r3), some (.int v4), some (.int x_61), some (.int x_66)]) dL_law_687 rfl rfl rfl ?_
      refine S_aload_n (pc := 689) dL_law_689 rfl ?_
      refine Y_Vi (pc := 690) (st := []) (kc' := (kc + 3)) (ks' := (ks + 18)) (ktX9_thrown r2) mw_X9_thrown mv_X9_thrown w1407 (RO.mk rfl rfl (ble_le (show (kc + 3) + 0 ≤ 601024 by omega)) (ble_le (show (ks + 18) + 0 ≤ 7293034 by omega))) rfl rfl rfl dL_law_690 ⟨rfl, rfl⟩ (fun x_67 => ?_)
      refine S_iload (pc := 693) dL_law_693 rfl ?_
      refine S_icmpeq (pc := 695) (tgt := 700) dL_law_695 (by decide) ?_ ?_
      · refine S_iload (pc := 700) dL_law_700 rfl ?_
        refine S_ifne (pc := 702) (tgt := 717) dL_law_702 (by decide) ?_ ?_
        · refine S_goto (pc := 717) (tgt := 2382) dL_law_717 (by decide) ?_
          exact (S_lv (lv0 := [some (.ref r0), some (.ref r1), some (.ref r2), some (.ref r3), some (.int v4), none, none]) (And.intro rfl (And.intro rfl (And.intro rfl (And.intro rfl (And.intro rfl trivial))))) (sL_law_2382 (h23 (kc + 3) (ks + 18) (by omega) (by omega)) r0 r1 r2 r3 v4))
        · refine S_aload_n (pc := 705) dL_law_705 rfl ?_
          refine S_iconst (pc := 706) (v := (nI 0)) dL_law_706 kI_0 ?_
          refine S_ldJ (pc := 707) dL_law_707 (fun y_68 => ?_)
          refine S_iload (pc := 708) dL_law_708 rfl ?_
          refine S_i2l (pc := 710) dL_law_710 ?_
          refine S_lcmp (pc := 711) dL_law_711 ?_
          refine S_ifeq (pc := 712) (tgt := 717) dL_law_712 (by decide) ?_ ?_
          · refine S_goto (pc := 717) (tgt := 2382) dL_law_717 (by decide) ?_
            exact (S_lv (lv0 := [some (.ref r0), some (.ref r1), some (.ref r2), some (.ref r3), some (.int v4), none, none]) (And.intro rfl (And.intro rfl (And.intro rfl (And.intro rfl (And.intro rfl trivial))))) (sL_law_2382 (h23 (kc + 3) (ks + 18) (by omega) (by omega)) r0 r1 r2 r3 v4))
          · refine S_iconst (pc := 715) (v := (nI 0)) dL_law_715 kI_0 ?_
            exact S_zret (pc := 716) ⟨ble_le (show _ ≤ 601024 by omega), ble_le (show _ ≤ 7293034 by omega)⟩ rfl rfl dL_law_716
      · refine S_iconst (pc := 698) (v := (nI 0)) dL_law_698 kI_0 ?_
        exact S_zret (pc := 699) ⟨ble_le (show _ ≤ 601024 by omega), ble_le (show _ ≤ 7293034 by omega)⟩ rfl rfl dL_law_699
    refine S_case (x := (x_13 &&& (nI 31))) (v := (nI 7)) (fun n7 => ?_) (fun n7 => ?_)
    · refine S_tsI (pc := 40) (tgt := 720) n7 dL_law_40 (by decide) rfl (by decide) ?_
      refine S_aload_n (pc := 720) dL_law_720 rfl ?_
      refine S_aload_n (pc := 721) dL_law_721 rfl ?_
      refine S_iload (pc := 722) dL_law_722 rfl ?_
      refine S_iconst (pc := 724) (v := (nI 1)) dL_law_724 kI_1 ?_
      refine S_iadd (pc := 725) dL_law_725 ?_
      refine S_ldS (pc := 726) dL_law_726 (fun x_69 => ?_)
      refine S_aload_n (pc := 727) dL_law_727 rfl ?_
      refine S_iload (pc := 728) dL_law_728 rfl ?_
      refine S_iconst (pc := 730) (v := (nI 2)) dL_law_730 kI_2 ?_
      refine S_iadd (pc := 731) dL_law_731 ?_
      refine S_ldS (pc := 732) dL_law_732 (fun x_70 => ?_)
      refine S_aload_n (pc := 733) dL_law_733 rfl ?_
      refine S_iload (pc := 734) dL_law_734 rfl ?_
      refine S_iconst (pc := 736) (v := (nI 3)) dL_law_736 kI_3 ?_
      refine S_iadd (pc := 737) dL_law_737 ?_
      refine S_ldS (pc := 738) dL_law_738 (fun x_71 => ?_)
      refine S_aload_n (pc := 739) dL_law_739 rfl ?_
      refine S_iload (pc := 740) dL_law_740 rfl ?_
      refine S_iconst (pc := 742) (v := (nI 4)) dL_law_742 kI_4 ?_
      refine S_iadd (pc := 743) dL_law_743 ?_
      refine S_ldS (pc := 744) dL_law_744 (fun x_72 => ?_)
      refine S_aload_n (pc := 745) dL_law_745 rfl ?_
      refine S_iload (pc := 746) dL_law_746 rfl ?_
      refine S_iconst (pc := 748) (v := (nI 5)) dL_law_748 kI_5 ?_
      refine S_iadd (pc := 749) dL_law_749 ?_
      refine S_ldS (pc := 750) dL_law_750 (fun x_73 => ?_)
      refine S_aload_n (pc := 751) dL_law_751 rfl ?_
      refine Y_SH (pc := 752) (st := []) (kc' := (kc + 3)) (ks' := (ks + 18)) (ktL_addField r1 x_69 x_70 x_71 x_72 x_73 r3) w897 w0 ⟨by decide, by decide⟩ (show Option.map _ (parseMethodDescriptor _) = some 7 by decide +kernel) w896 w895 (RO.mk rfl rfl (ble_le (show kc + 3 ≤ 601024 by omega)) (ble_le (show ks + 18 ≤ 7293034 by omega))) rfl rfl rfl dL_law_752 ⟨rfl, rfl⟩ (fun x_74 => ?_)
      refine Z_istore (pc := 755) (lv' := [some (.ref r0), some (.ref r1), some (.ref r2), some (.ref r3), some (.int v4), some (.int x_74), none]) dL_law_755 rfl rfl rfl ?_
      refine S_aload_n (pc := 757) dL_law_757 rfl ?_
      refine S_aload_n (pc := 758) dL_law_758 rfl ?_
      refine S_iload (pc := 759) dL_law_759 rfl ?_
      refine S_iconst (pc := 761) (v := (nI 1)) dL_law_761 kI_1 ?_
      refine S_iadd (pc := 762) dL_law_762 ?_
      refine S_ldS (pc := 763) dL_law_763 (fun x_75 => ?_)
      refine S_aload_n (pc := 764) dL_law_764 rfl ?_
      refine S_iload (pc := 765) dL_law_765 rfl ?_
      refine S_iconst (pc := 767) (v := (nI 2)) dL_law_767 kI_2 ?_
      refine S_iadd (pc := 768) dL_law_768 ?_
      refine S_ldS (pc := 769) dL_law_769 (fun x_76 => ?_)
      refine S_aload_n (pc := 770) dL_law_770 rfl ?_
      refine S_iload (pc := 771) dL_law_771 rfl ?_
      refine S_iconst (pc := 773) (v := (nI 3)) dL_law_773 kI_3 ?_
      refine S_iadd (pc := 774) dL_law_774 ?_
      refine S_ldS (pc := 775) dL_law_775 (fun x_77 => ?_)
      refine S_aload_n (pc := 776) dL_law_776 rfl ?_
      refine S_iload (pc := 777) dL_law_777 rfl ?_
      refine S_iconst (pc := 779) (v := (nI 4)) dL_law_779 kI_4 ?_
      refine S_iadd (pc := 780) dL_law_780 ?_
      refine S_ldS (pc := 781) dL_law_781 (fun x_78 => ?_)
      refine S_aload_n (pc := 782) dL_law_782 rfl ?_
      refine S_iload (pc := 783) dL_law_783 rfl ?_
      refine S_iconst (pc := 785) (v := (nI 5)) dL_law_785 kI_5 ?_
      refine S_iadd (pc := 786) dL_law_786 ?_
      refine S_ldS (pc := 787) dL_law_787 (fun x_79 => ?_)
      refine Y_Vi (pc := 788) (st := []) (kc' := (kc + 3)) (ks' := (ks + 18)) (ktX9_addField r2 x_75 x_76 x_77 x_78 x_79) mw_X9_addField mv_X9_addField w1490 (RO.mk rfl rfl (ble_le (show (kc + 3) + 0 ≤ 601024 by omega)) (ble_le (show (ks + 18) + 0 ≤ 7293034 by omega))) rfl rfl rfl dL_law_788 ⟨rfl, rfl⟩ (fun x_80 => ?_)
      refine Z_istore (pc := 791) (lv' := [some (.ref r0), some (.ref r1), some (.ref r2), some (.ref r3), some (.int v4), some (.int x_74), some (.int x_80)]) dL_law_791 rfl rfl rfl ?_
      refine S_aload_n (pc := 793) dL_law_793 rfl ?_
      refine Y_Vi (pc := 794) (st := []) (kc' := (kc + 3)) (ks' := (ks + 18)) (ktX9_thrown r2) mw_X9_thrown mv_X9_thrown w1407 (RO.mk rfl rfl (ble_le (show (kc + 3) + 0 ≤ 601024 by omega)) (ble_le (show (ks + 18) + 0 ≤ 7293034 by omega))) rfl rfl rfl dL_law_794 ⟨rfl, rfl⟩ (fun x_81 => ?_)
      refine S_iload (pc := 797) dL_law_797 rfl ?_
      refine S_icmpeq (pc := 799) (tgt := 804) dL_law_799 (by decide) ?_ ?_
      · refine S_iload (pc := 804) dL_law_804 rfl ?_
        refine S_ifne (pc := 806) (tgt := 821) dL_law_806 (by decide) ?_ ?_
        · refine S_goto (pc := 821) (tgt := 2382) dL_law_821 (by decide) ?_
          exact (S_lv (lv0 := [some (.ref r0), some (.ref r1), some (.ref r2), some (.ref r3), some (.int v4), none, none]) (And.intro rfl (And.intro rfl (And.intro rfl (And.intro rfl (And.intro rfl trivial))))) (sL_law_2382 (h23 (kc + 3) (ks + 18) (by omega) (by omega)) r0 r1 r2 r3 v4))
        · refine S_aload_n (pc := 809) dL_law_809 rfl ?_
          refine S_iconst (pc := 810) (v := (nI 0)) dL_law_810 kI_0 ?_
          refine S_ldJ (pc := 811) dL_law_811 (fun y_82 => ?_)
          refine S_iload (pc := 812) dL_law_812 rfl ?_
          refine S_i2l (pc := 814) dL_law_814 ?_
          refine S_lcmp (pc := 815) dL_law_815 ?_
          refine S_ifeq (pc := 816) (tgt := 821) dL_law_816 (by decide) ?_ ?_
          · refine S_goto (pc := 821) (tgt := 2382) dL_law_821 (by decide) ?_
            exact (S_lv (lv0 := [some (.ref r0), some (.ref r1), some (.ref r2), some (.ref r3), some (.int v4), none, none]) (And.intro rfl (And.intro rfl (And.intro rfl (And.intro rfl (And.intro rfl trivial))))) (sL_law_2382 (h23 (kc + 3) (ks + 18) (by omega) (by omega)) r0 r1 r2 r3 v4))
          · refine S_iconst (pc := 819) (v := (nI 0)) dL_law_819 kI_0 ?_
            exact S_zret (pc := 820) ⟨ble_le (show _ ≤ 601024 by omega), ble_le (show _ ≤ 7293034 by omega)⟩ rfl rfl dL_law_820
      · refine S_iconst (pc := 802) (v := (nI 0)) dL_law_802 kI_0 ?_
        exact S_zret (pc := 803) ⟨ble_le (show _ ≤ 601024 by omega), ble_le (show _ ≤ 7293034 by omega)⟩ rfl rfl dL_law_803
    refine S_case (x := (x_13 &&& (nI 31))) (v := (nI 8)) (fun n8 => ?_) (fun n8 => ?_)
    · refine S_tsI (pc := 40) (tgt := 824) n8 dL_law_40 (by decide) rfl (by decide) ?_
      refine S_aload_n (pc := 824) dL_law_824 rfl ?_
      refine S_aload_n (pc := 825) dL_law_825 rfl ?_
      refine S_iload (pc := 826) dL_law_826 rfl ?_
      refine S_iconst (pc := 828) (v := (nI 1)) dL_law_828 kI_1 ?_
      refine S_iadd (pc := 829) dL_law_829 ?_
      refine S_ldS (pc := 830) dL_law_830 (fun x_83 => ?_)
      refine S_aload_n (pc := 831) dL_law_831 rfl ?_
      refine S_iload (pc := 832) dL_law_832 rfl ?_
      refine S_iconst (pc := 834) (v := (nI 2)) dL_law_834 kI_2 ?_
      refine S_iadd (pc := 835) dL_law_835 ?_
      refine S_ldS (pc := 836) dL_law_836 (fun x_84 => ?_)
      refine S_aload_n (pc := 837) dL_law_837 rfl ?_
      refine S_iload (pc := 838) dL_law_838 rfl ?_
      refine S_iconst (pc := 840) (v := (nI 3)) dL_law_840 kI_3 ?_
      refine S_iadd (pc := 841) dL_law_841 ?_
      refine S_ldS (pc := 842) dL_law_842 (fun x_85 => ?_)
      refine S_aload_n (pc := 843) dL_law_843 rfl ?_
      refine S_iload (pc := 844) dL_law_844 rfl ?_
      refine S_iconst (pc := 846) (v := (nI 4)) dL_law_846 kI_4 ?_
      refine S_iadd (pc := 847) dL_law_847 ?_
      refine S_ldS (pc := 848) dL_law_848 (fun x_86 => ?_)
      refine S_aload_n (pc := 849) dL_law_849 rfl ?_
      refine S_iload (pc := 850) dL_law_850 rfl ?_
      refine S_iconst (pc := 852) (v := (nI 5)) dL_law_852 kI_5 ?_
      refine S_iadd (pc := 853) dL_law_853 ?_
      refine S_ldS (pc := 854) dL_law_854 (fun x_87 => ?_)
      refine S_aload_n (pc := 855) dL_law_855 rfl ?_
      refine Y_SH (pc := 856) (st := []) (kc' := (kc + 3)) (ks' := (ks + 18)) (ktL_addMethod r1 x_83 x_84 x_85 x_86 x_87 r3) w924 w0 ⟨by decide, by decide⟩ (show Option.map _ (parseMethodDescriptor _) = some 7 by decide +kernel) w923 w922 (RO.mk rfl rfl (ble_le (show kc + 3 ≤ 601024 by omega)) (ble_le (show ks + 18 ≤ 7293034 by omega))) rfl rfl rfl dL_law_856 ⟨rfl, rfl⟩ (fun x_88 => ?_)
      refine Z_istore (pc := 859) (lv' := [some (.ref r0), some (.ref r1), some (.ref r2), some (.ref r3), some (.int v4), some (.int x_88), none]) dL_law_859 rfl rfl rfl ?_
      refine S_aload_n (pc := 861) dL_law_861 rfl ?_
      refine S_aload_n (pc := 862) dL_law_862 rfl ?_
      refine S_iload (pc := 863) dL_law_863 rfl ?_
      refine S_iconst (pc := 865) (v := (nI 1)) dL_law_865 kI_1 ?_
      refine S_iadd (pc := 866) dL_law_866 ?_
      refine S_ldS (pc := 867) dL_law_867 (fun x_89 => ?_)
      refine S_aload_n (pc := 868) dL_law_868 rfl ?_
      refine S_iload (pc := 869) dL_law_869 rfl ?_
      refine S_iconst (pc := 871) (v := (nI 2)) dL_law_871 kI_2 ?_
      refine S_iadd (pc := 872) dL_law_872 ?_
      refine S_ldS (pc := 873) dL_law_873 (fun x_90 => ?_)
      refine S_aload_n (pc := 874) dL_law_874 rfl ?_
      refine S_iload (pc := 875) dL_law_875 rfl ?_
      refine S_iconst (pc := 877) (v := (nI 3)) dL_law_877 kI_3 ?_
      refine S_iadd (pc := 878) dL_law_878 ?_
      refine S_ldS (pc := 879) dL_law_879 (fun x_91 => ?_)
      refine S_aload_n (pc := 880) dL_law_880 rfl ?_
      refine S_iload (pc := 881) dL_law_881 rfl ?_
      refine S_iconst (pc := 883) (v := (nI 4)) dL_law_883 kI_4 ?_
      refine S_iadd (pc := 884) dL_law_884 ?_
      refine S_ldS (pc := 885) dL_law_885 (fun x_92 => ?_)
      refine S_aload_n (pc := 886) dL_law_886 rfl ?_
      refine S_iload (pc := 887) dL_law_887 rfl ?_
      refine S_iconst (pc := 889) (v := (nI 5)) dL_law_889 kI_5 ?_
      refine S_iadd (pc := 890) dL_law_890 ?_
      refine S_ldS (pc := 891) dL_law_891 (fun x_93 => ?_)
      refine Y_Vi (pc := 892) (st := []) (kc' := (kc + 3)) (ks' := (ks + 18)) (ktX9_addMethod r2 x_89 x_90 x_91 x_92 x_93) mw_X9_addMethod mv_X9_addMethod w1506 (RO.mk rfl rfl (ble_le (show (kc + 3) + 0 ≤ 601024 by omega)) (ble_le (show (ks + 18) + 0 ≤ 7293034 by omega))) rfl rfl rfl dL_law_892 ⟨rfl, rfl⟩ (fun x_94 => ?_)
      refine Z_istore (pc := 895) (lv' := [some (.ref r0), some (.ref r1), some (.ref r2), some (.ref r3), some (.int v4), some (.int x_88), some (.int x_94)]) dL_law_895 rfl rfl rfl ?_
      refine S_aload_n (pc := 897) dL_law_897 rfl ?_
      refine Y_Vi (pc := 898) (st := []) (kc' := (kc + 3)) (ks' := (ks + 18)) (ktX9_thrown r2) mw_X9_thrown mv_X9_thrown w1407 (RO.mk rfl rfl (ble_le (show (kc + 3) + 0 ≤ 601024 by omega)) (ble_le (show (ks + 18) + 0 ≤ 7293034 by omega))) rfl rfl rfl dL_law_898 ⟨rfl, rfl⟩ (fun x_95 => ?_)
      refine S_iload (pc := 901) dL_law_901 rfl ?_
      refine S_icmpeq (pc := 903) (tgt := 908) dL_law_903 (by decide) ?_ ?_
      · refine S_iload (pc := 908) dL_law_908 rfl ?_
        refine S_ifne (pc := 910) (tgt := 925) dL_law_910 (by decide) ?_ ?_
        · refine S_goto (pc := 925) (tgt := 2382) dL_law_925 (by decide) ?_
          exact (S_lv (lv0 := [some (.ref r0), some (.ref r1), some (.ref r2), some (.ref r3), some (.int v4), none, none]) (And.intro rfl (And.intro rfl (And.intro rfl (And.intro rfl (And.intro rfl trivial))))) (sL_law_2382 (h23 (kc + 3) (ks + 18) (by omega) (by omega)) r0 r1 r2 r3 v4))
        · refine S_aload_n (pc := 913) dL_law_913 rfl ?_
          refine S_iconst (pc := 914) (v := (nI 0)) dL_law_914 kI_0 ?_
          refine S_ldJ (pc := 915) dL_law_915 (fun y_96 => ?_)
          refine S_iload (pc := 916) dL_law_916 rfl ?_
          refine S_i2l (pc := 918) dL_law_918 ?_
          refine S_lcmp (pc := 919) dL_law_919 ?_
          refine S_ifeq (pc := 920) (tgt := 925) dL_law_920 (by decide) ?_ ?_
          · refine S_goto (pc := 925) (tgt := 2382) dL_law_925 (by decide) ?_
            exact (S_lv (lv0 := [some (.ref r0), some (.ref r1), some (.ref r2), some (.ref r3), some (.int v4), none, none]) (And.intro rfl (And.intro rfl (And.intro rfl (And.intro rfl (And.intro rfl trivial))))) (sL_law_2382 (h23 (kc + 3) (ks + 18) (by omega) (by omega)) r0 r1 r2 r3 v4))
          · refine S_iconst (pc := 923) (v := (nI 0)) dL_law_923 kI_0 ?_
            exact S_zret (pc := 924) ⟨ble_le (show _ ≤ 601024 by omega), ble_le (show _ ≤ 7293034 by omega)⟩ rfl rfl dL_law_924
      · refine S_iconst (pc := 906) (v := (nI 0)) dL_law_906 kI_0 ?_
        exact S_zret (pc := 907) ⟨ble_le (show _ ≤ 601024 by omega), ble_le (show _ ≤ 7293034 by omega)⟩ rfl rfl dL_law_907
    refine S_case (x := (x_13 &&& (nI 31))) (v := (nI 9)) (fun n9 => ?_) (fun n9 => ?_)
    · refine S_tsI (pc := 40) (tgt := 928) n9 dL_law_40 (by decide) rfl (by decide) ?_
      refine S_aload_n (pc := 928) dL_law_928 rfl ?_
      refine S_aload_n (pc := 929) dL_law_929 rfl ?_
      refine S_iload (pc := 930) dL_law_930 rfl ?_
      refine S_iconst (pc := 932) (v := (nI 1)) dL_law_932 kI_1 ?_
      refine S_iadd (pc := 933) dL_law_933 ?_
      refine S_ldS (pc := 934) dL_law_934 (fun x_97 => ?_)
      refine S_aload_n (pc := 935) dL_law_935 rfl ?_
      refine S_iload (pc := 936) dL_law_936 rfl ?_
      refine S_iconst (pc := 938) (v := (nI 2)) dL_law_938 kI_2 ?_
      refine S_iadd (pc := 939) dL_law_939 ?_
      refine S_ldS (pc := 940) dL_law_940 (fun x_98 => ?_)
      refine S_aload_n (pc := 941) dL_law_941 rfl ?_
      refine Y_SH (pc := 942) (st := []) (kc' := (kc + 3)) (ks' := (ks + 18)) (ktL_removeMember r1 x_97 x_98 r3) w943 w0 ⟨by decide, by decide⟩ (show Option.map _ (parseMethodDescriptor _) = some 4 by decide +kernel) w942 w941 (RO.mk rfl rfl (ble_le (show kc + 3 ≤ 601024 by omega)) (ble_le (show ks + 18 ≤ 7293034 by omega))) rfl rfl rfl dL_law_942 ⟨rfl, rfl⟩ (fun x_99 => ?_)
      refine Z_istore (pc := 945) (lv' := [some (.ref r0), some (.ref r1), some (.ref r2), some (.ref r3), some (.int v4), some (.int x_99), none]) dL_law_945 rfl rfl rfl ?_
      refine S_aload_n (pc := 947) dL_law_947 rfl ?_
      refine S_aload_n (pc := 948) dL_law_948 rfl ?_
      refine S_iload (pc := 949) dL_law_949 rfl ?_
      refine S_iconst (pc := 951) (v := (nI 1)) dL_law_951 kI_1 ?_
      refine S_iadd (pc := 952) dL_law_952 ?_
      refine S_ldS (pc := 953) dL_law_953 (fun x_100 => ?_)
      refine S_aload_n (pc := 954) dL_law_954 rfl ?_
      refine S_iload (pc := 955) dL_law_955 rfl ?_
      refine S_iconst (pc := 957) (v := (nI 2)) dL_law_957 kI_2 ?_
      refine S_iadd (pc := 958) dL_law_958 ?_
      refine S_ldS (pc := 959) dL_law_959 (fun x_101 => ?_)
      refine Y_Vi (pc := 960) (st := []) (kc' := (kc + 3)) (ks' := (ks + 18)) (ktX9_removeMember r2 x_100 x_101) mw_X9_removeMember mv_X9_removeMember w1510 (RO.mk rfl rfl (ble_le (show (kc + 3) + 0 ≤ 601024 by omega)) (ble_le (show (ks + 18) + 0 ≤ 7293034 by omega))) rfl rfl rfl dL_law_960 ⟨rfl, rfl⟩ (fun x_102 => ?_)
      refine Z_istore (pc := 963) (lv' := [some (.ref r0), some (.ref r1), some (.ref r2), some (.ref r3), some (.int v4), some (.int x_99), some (.int x_102)]) dL_law_963 rfl rfl rfl ?_
      refine S_aload_n (pc := 965) dL_law_965 rfl ?_
      refine Y_Vi (pc := 966) (st := []) (kc' := (kc + 3)) (ks' := (ks + 18)) (ktX9_thrown r2) mw_X9_thrown mv_X9_thrown w1407 (RO.mk rfl rfl (ble_le (show (kc + 3) + 0 ≤ 601024 by omega)) (ble_le (show (ks + 18) + 0 ≤ 7293034 by omega))) rfl rfl rfl dL_law_966 ⟨rfl, rfl⟩ (fun x_103 => ?_)
      refine S_iload (pc := 969) dL_law_969 rfl ?_
      refine S_icmpeq (pc := 971) (tgt := 976) dL_law_971 (by decide) ?_ ?_
      · refine S_iload (pc := 976) dL_law_976 rfl ?_
        refine S_ifne (pc := 978) (tgt := 993) dL_law_978 (by decide) ?_ ?_
        · refine S_goto (pc := 993) (tgt := 2382) dL_law_993 (by decide) ?_
          exact (S_lv (lv0 := [some (.ref r0), some (.ref r1), some (.ref r2), some (.ref r3), some (.int v4), none, none]) (And.intro rfl (And.intro rfl (And.intro rfl (And.intro rfl (And.intro rfl trivial))))) (sL_law_2382 (h23 (kc + 3) (ks + 18) (by omega) (by omega)) r0 r1 r2 r3 v4))
        · refine S_aload_n (pc := 981) dL_law_981 rfl ?_
          refine S_iconst (pc := 982) (v := (nI 0)) dL_law_982 kI_0 ?_
          refine S_ldJ (pc := 983) dL_law_983 (fun y_104 => ?_)
          refine S_iload (pc := 984) dL_law_984 rfl ?_
          refine S_i2l (pc := 986) dL_law_986 ?_
          refine S_lcmp (pc := 987) dL_law_987 ?_
          refine S_ifeq (pc := 988) (tgt := 993) dL_law_988 (by decide) ?_ ?_
          · refine S_goto (pc := 993) (tgt := 2382) dL_law_993 (by decide) ?_
            exact (S_lv (lv0 := [some (.ref r0), some (.ref r1), some (.ref r2), some (.ref r3), some (.int v4), none, none]) (And.intro rfl (And.intro rfl (And.intro rfl (And.intro rfl (And.intro rfl trivial))))) (sL_law_2382 (h23 (kc + 3) (ks + 18) (by omega) (by omega)) r0 r1 r2 r3 v4))
          · refine S_iconst (pc := 991) (v := (nI 0)) dL_law_991 kI_0 ?_
            exact S_zret (pc := 992) ⟨ble_le (show _ ≤ 601024 by omega), ble_le (show _ ≤ 7293034 by omega)⟩ rfl rfl dL_law_992
      · refine S_iconst (pc := 974) (v := (nI 0)) dL_law_974 kI_0 ?_
        exact S_zret (pc := 975) ⟨ble_le (show _ ≤ 601024 by omega), ble_le (show _ ≤ 7293034 by omega)⟩ rfl rfl dL_law_975
    refine S_case (x := (x_13 &&& (nI 31))) (v := (nI 10)) (fun n10 => ?_) (fun n10 => ?_)
    · refine S_tsI (pc := 40) (tgt := 996) n10 dL_law_40 (by decide) rfl (by decide) ?_
      refine S_aload_n (pc := 996) dL_law_996 rfl ?_
      refine S_aload_n (pc := 997) dL_law_997 rfl ?_
      refine S_iload (pc := 998) dL_law_998 rfl ?_
      refine S_iconst (pc := 1000) (v := (nI 1)) dL_law_1000 kI_1 ?_
      refine S_iadd (pc := 1001) dL_law_1001 ?_
      refine S_ldS (pc := 1002) dL_law_1002 (fun x_105 => ?_)
      refine S_aload_n (pc := 1003) dL_law_1003 rfl ?_
      refine S_iload (pc := 1004) dL_law_1004 rfl ?_
      refine S_iconst (pc := 1006) (v := (nI 2)) dL_law_1006 kI_2 ?_
      refine S_iadd (pc := 1007) dL_law_1007 ?_
      refine S_ldS (pc := 1008) dL_law_1008 (fun x_106 => ?_)
      refine S_aload_n (pc := 1009) dL_law_1009 rfl ?_
      refine S_iload (pc := 1010) dL_law_1010 rfl ?_
      refine S_iconst (pc := 1012) (v := (nI 3)) dL_law_1012 kI_3 ?_
      refine S_iadd (pc := 1013) dL_law_1013 ?_
      refine S_ldS (pc := 1014) dL_law_1014 (fun x_107 => ?_)
      refine S_aload_n (pc := 1015) dL_law_1015 rfl ?_
      refine S_iload (pc := 1016) dL_law_1016 rfl ?_
      refine S_iconst (pc := 1018) (v := (nI 4)) dL_law_1018 kI_4 ?_
      refine S_iadd (pc := 1019) dL_law_1019 ?_
      refine S_ldS (pc := 1020) dL_law_1020 (fun x_108 => ?_)
      refine S_aload_n (pc := 1021) dL_law_1021 rfl ?_
      refine Y_SH (pc := 1022) (st := []) (kc' := (kc + 3)) (ks' := (ks + 18)) (ktL_setMember r1 x_105 x_106 x_107 x_108 r3) w963 w0 ⟨by decide, by decide⟩ (show Option.map _ (parseMethodDescriptor _) = some 6 by decide +kernel) w962 w961 (RO.mk rfl rfl (ble_le (show kc + 3 ≤ 601024 by omega)) (ble_le (show ks + 18 ≤ 7293034 by omega))) rfl rfl rfl dL_law_1022 ⟨rfl, rfl⟩ (fun x_109 => ?_)
      refine Z_istore (pc := 1025) (lv' := [some (.ref r0), some (.ref r1), some (.ref r2), some (.ref r3), some (.int v4), some (.int x_109), none]) dL_law_1025 rfl rfl rfl ?_
      refine S_aload_n (pc := 1027) dL_law_1027 rfl ?_
      refine S_aload_n (pc := 1028) dL_law_1028 rfl ?_
      refine S_iload (pc := 1029) dL_law_1029 rfl ?_
      refine S_iconst (pc := 1031) (v := (nI 1)) dL_law_1031 kI_1 ?_
      refine S_iadd (pc := 1032) dL_law_1032 ?_
      refine S_ldS (pc := 1033) dL_law_1033 (fun x_110 => ?_)
      refine S_aload_n (pc := 1034) dL_law_1034 rfl ?_
      refine S_iload (pc := 1035) dL_law_1035 rfl ?_
      refine S_iconst (pc := 1037) (v := (nI 2)) dL_law_1037 kI_2 ?_
      refine S_iadd (pc := 1038) dL_law_1038 ?_
      refine S_ldS (pc := 1039) dL_law_1039 (fun x_111 => ?_)
      refine S_aload_n (pc := 1040) dL_law_1040 rfl ?_
      refine S_iload (pc := 1041) dL_law_1041 rfl ?_
      refine S_iconst (pc := 1043) (v := (nI 3)) dL_law_1043 kI_3 ?_
      refine S_iadd (pc := 1044) dL_law_1044 ?_
      refine S_ldS (pc := 1045) dL_law_1045 (fun x_112 => ?_)
      refine S_aload_n (pc := 1046) dL_law_1046 rfl ?_
      refine S_iload (pc := 1047) dL_law_1047 rfl ?_
      refine S_iconst (pc := 1049) (v := (nI 4)) dL_law_1049 kI_4 ?_
      refine S_iadd (pc := 1050) dL_law_1050 ?_
      refine S_ldS (pc := 1051) dL_law_1051 (fun x_113 => ?_)
      refine Y_Vi (pc := 1052) (st := []) (kc' := (kc + 3)) (ks' := (ks + 18)) (ktX9_setMember r2 x_110 x_111 x_112 x_113) mw_X9_setMember mv_X9_setMember w1518 (RO.mk rfl rfl (ble_le (show (kc + 3) + 0 ≤ 601024 by omega)) (ble_le (show (ks + 18) + 0 ≤ 7293034 by omega))) rfl rfl rfl dL_law_1052 ⟨rfl, rfl⟩ (fun x_114 => ?_)
      refine Z_istore (pc := 1055) (lv' := [some (.ref r0), some (.ref r1), some (.ref r2), some (.ref r3), some (.int v4), some (.int x_109), some (.int x_114)]) dL_law_1055 rfl rfl rfl ?_
      refine S_aload_n (pc := 1057) dL_law_1057 rfl ?_
      refine Y_Vi (pc := 1058) (st := []) (kc' := (kc + 3)) (ks' := (ks + 18)) (ktX9_thrown r2) mw_X9_thrown mv_X9_thrown w1407 (RO.mk rfl rfl (ble_le (show (kc + 3) + 0 ≤ 601024 by omega)) (ble_le (show (ks + 18) + 0 ≤ 7293034 by omega))) rfl rfl rfl dL_law_1058 ⟨rfl, rfl⟩ (fun x_115 => ?_)
      refine S_iload (pc := 1061) dL_law_1061 rfl ?_
      refine S_icmpeq (pc := 1063) (tgt := 1068) dL_law_1063 (by decide) ?_ ?_
      · refine S_iload (pc := 1068) dL_law_1068 rfl ?_
        refine S_ifne (pc := 1070) (tgt := 1085) dL_law_1070 (by decide) ?_ ?_
        · refine S_goto (pc := 1085) (tgt := 2382) dL_law_1085 (by decide) ?_
          exact (S_lv (lv0 := [some (.ref r0), some (.ref r1), some (.ref r2), some (.ref r3), some (.int v4), none, none]) (And.intro rfl (And.intro rfl (And.intro rfl (And.intro rfl (And.intro rfl trivial))))) (sL_law_2382 (h23 (kc + 3) (ks + 18) (by omega) (by omega)) r0 r1 r2 r3 v4))
        · refine S_aload_n (pc := 1073) dL_law_1073 rfl ?_
          refine S_iconst (pc := 1074) (v := (nI 0)) dL_law_1074 kI_0 ?_
          refine S_ldJ (pc := 1075) dL_law_1075 (fun y_116 => ?_)
          refine S_iload (pc := 1076) dL_law_1076 rfl ?_
          refine S_i2l (pc := 1078) dL_law_1078 ?_
          refine S_lcmp (pc := 1079) dL_law_1079 ?_
          refine S_ifeq (pc := 1080) (tgt := 1085) dL_law_1080 (by decide) ?_ ?_
          · refine S_goto (pc := 1085) (tgt := 2382) dL_law_1085 (by decide) ?_
            exact (S_lv (lv0 := [some (.ref r0), some (.ref r1), some (.ref r2), some (.ref r3), some (.int v4), none, none]) (And.intro rfl (And.intro rfl (And.intro rfl (And.intro rfl (And.intro rfl trivial))))) (sL_law_2382 (h23 (kc + 3) (ks + 18) (by omega) (by omega)) r0 r1 r2 r3 v4))
          · refine S_iconst (pc := 1083) (v := (nI 0)) dL_law_1083 kI_0 ?_
            exact S_zret (pc := 1084) ⟨ble_le (show _ ≤ 601024 by omega), ble_le (show _ ≤ 7293034 by omega)⟩ rfl rfl dL_law_1084
      · refine S_iconst (pc := 1066) (v := (nI 0)) dL_law_1066 kI_0 ?_
        exact S_zret (pc := 1067) ⟨ble_le (show _ ≤ 601024 by omega), ble_le (show _ ≤ 7293034 by omega)⟩ rfl rfl dL_law_1067
    refine S_case (x := (x_13 &&& (nI 31))) (v := (nI 11)) (fun n11 => ?_) (fun n11 => ?_)
    · refine S_tsI (pc := 40) (tgt := 1088) n11 dL_law_40 (by decide) rfl (by decide) ?_
      refine S_aload_n (pc := 1088) dL_law_1088 rfl ?_
      refine S_aload_n (pc := 1089) dL_law_1089 rfl ?_
      refine S_iload (pc := 1090) dL_law_1090 rfl ?_
      refine S_iconst (pc := 1092) (v := (nI 1)) dL_law_1092 kI_1 ?_
      refine S_iadd (pc := 1093) dL_law_1093 ?_
      refine S_ldS (pc := 1094) dL_law_1094 (fun x_117 => ?_)
      refine S_aload_n (pc := 1095) dL_law_1095 rfl ?_
      refine S_iload (pc := 1096) dL_law_1096 rfl ?_
      refine S_iconst (pc := 1098) (v := (nI 2)) dL_law_1098 kI_2 ?_
      refine S_iadd (pc := 1099) dL_law_1099 ?_
      refine S_ldS (pc := 1100) dL_law_1100 (fun x_118 => ?_)
      refine S_aload_n (pc := 1101) dL_law_1101 rfl ?_
      refine S_iload (pc := 1102) dL_law_1102 rfl ?_
      refine S_iconst (pc := 1104) (v := (nI 3)) dL_law_1104 kI_3 ?_
      refine S_iadd (pc := 1105) dL_law_1105 ?_
      refine S_ldS (pc := 1106) dL_law_1106 (fun x_119 => ?_)
      refine S_aload_n (pc := 1107) dL_law_1107 rfl ?_
      refine Y_SH (pc := 1108) (st := []) (kc' := (kc + 3)) (ks' := (ks + 18)) (ktL_moveMember r1 x_117 x_118 x_119 r3) w977 w0 ⟨by decide, by decide⟩ (show Option.map _ (parseMethodDescriptor _) = some 5 by decide +kernel) w976 w975 (RO.mk rfl rfl (ble_le (show kc + 3 ≤ 601024 by omega)) (ble_le (show ks + 18 ≤ 7293034 by omega))) rfl rfl rfl dL_law_1108 ⟨rfl, rfl⟩ (fun x_120 => ?_)
      refine Z_istore (pc := 1111) (lv' := [some (.ref r0), some (.ref r1), some (.ref r2), some (.ref r3), some (.int v4), some (.int x_120), none]) dL_law_1111 rfl rfl rfl ?_
      refine S_aload_n (pc := 1113) dL_law_1113 rfl ?_
      refine S_aload_n (pc := 1114) dL_law_1114 rfl ?_
      refine S_iload (pc := 1115) dL_law_1115 rfl ?_
      refine S_iconst (pc := 1117) (v := (nI 1)) dL_law_1117 kI_1 ?_
      refine S_iadd (pc := 1118) dL_law_1118 ?_
      refine S_ldS (pc := 1119) dL_law_1119 (fun x_121 => ?_)
      refine S_aload_n (pc := 1120) dL_law_1120 rfl ?_
      refine S_iload (pc := 1121) dL_law_1121 rfl ?_
      refine S_iconst (pc := 1123) (v := (nI 2)) dL_law_1123 kI_2 ?_
      refine S_iadd (pc := 1124) dL_law_1124 ?_
      refine S_ldS (pc := 1125) dL_law_1125 (fun x_122 => ?_)
      refine S_aload_n (pc := 1126) dL_law_1126 rfl ?_
      refine S_iload (pc := 1127) dL_law_1127 rfl ?_
      refine S_iconst (pc := 1129) (v := (nI 3)) dL_law_1129 kI_3 ?_
      refine S_iadd (pc := 1130) dL_law_1130 ?_
      refine S_ldS (pc := 1131) dL_law_1131 (fun x_123 => ?_)
      refine Y_Vi (pc := 1132) (st := []) (kc' := (kc + 3)) (ks' := (ks + 18)) (ktX9_moveMember r2 x_121 x_122 x_123) mw_X9_moveMember mv_X9_moveMember w1526 (RO.mk rfl rfl (ble_le (show (kc + 3) + 0 ≤ 601024 by omega)) (ble_le (show (ks + 18) + 0 ≤ 7293034 by omega))) rfl rfl rfl dL_law_1132 ⟨rfl, rfl⟩ (fun x_124 => ?_)
      refine Z_istore (pc := 1135) (lv' := [some (.ref r0), some (.ref r1), some (.ref r2), some (.ref r3), some (.int v4), some (.int x_120), some (.int x_124)]) dL_law_1135 rfl rfl rfl ?_
      refine S_aload_n (pc := 1137) dL_law_1137 rfl ?_
      refine Y_Vi (pc := 1138) (st := []) (kc' := (kc + 3)) (ks' := (ks + 18)) (ktX9_thrown r2) mw_X9_thrown mv_X9_thrown w1407 (RO.mk rfl rfl (ble_le (show (kc + 3) + 0 ≤ 601024 by omega)) (ble_le (show (ks + 18) + 0 ≤ 7293034 by omega))) rfl rfl rfl dL_law_1138 ⟨rfl, rfl⟩ (fun x_125 => ?_)
      refine S_iload (pc := 1141) dL_law_1141 rfl ?_
      refine S_icmpeq (pc := 1143) (tgt := 1148) dL_law_1143 (by decide) ?_ ?_
      · refine S_iload (pc := 1148) dL_law_1148 rfl ?_
        refine S_ifne (pc := 1150) (tgt := 1165) dL_law_1150 (by decide) ?_ ?_
        · refine S_goto (pc := 1165) (tgt := 2382) dL_law_1165 (by decide) ?_
          exact (S_lv (lv0 := [some (.ref r0), some (.ref r1), some (.ref r2), some (.ref r3), some (.int v4), none, none]) (And.intro rfl (And.intro rfl (And.intro rfl (And.intro rfl (And.intro rfl trivial))))) (sL_law_2382 (h23 (kc + 3) (ks + 18) (by omega) (by omega)) r0 r1 r2 r3 v4))
        · refine S_aload_n (pc := 1153) dL_law_1153 rfl ?_
          refine S_iconst (pc := 1154) (v := (nI 0)) dL_law_1154 kI_0 ?_
          refine S_ldJ (pc := 1155) dL_law_1155 (fun y_126 => ?_)
          refine S_iload (pc := 1156) dL_law_1156 rfl ?_
          refine S_i2l (pc := 1158) dL_law_1158 ?_
          refine S_lcmp (pc := 1159) dL_law_1159 ?_
          refine S_ifeq (pc := 1160) (tgt := 1165) dL_law_1160 (by decide) ?_ ?_
          · refine S_goto (pc := 1165) (tgt := 2382) dL_law_1165 (by decide) ?_
            exact (S_lv (lv0 := [some (.ref r0), some (.ref r1), some (.ref r2), some (.ref r3), some (.int v4), none, none]) (And.intro rfl (And.intro rfl (And.intro rfl (And.intro rfl (And.intro rfl trivial))))) (sL_law_2382 (h23 (kc + 3) (ks + 18) (by omega) (by omega)) r0 r1 r2 r3 v4))
          · refine S_iconst (pc := 1163) (v := (nI 0)) dL_law_1163 kI_0 ?_
            exact S_zret (pc := 1164) ⟨ble_le (show _ ≤ 601024 by omega), ble_le (show _ ≤ 7293034 by omega)⟩ rfl rfl dL_law_1164
      · refine S_iconst (pc := 1146) (v := (nI 0)) dL_law_1146 kI_0 ?_
        exact S_zret (pc := 1147) ⟨ble_le (show _ ≤ 601024 by omega), ble_le (show _ ≤ 7293034 by omega)⟩ rfl rfl dL_law_1147
    refine S_case (x := (x_13 &&& (nI 31))) (v := (nI 12)) (fun n12 => ?_) (fun n12 => ?_)
    · refine S_tsI (pc := 40) (tgt := 1168) n12 dL_law_40 (by decide) rfl (by decide) ?_
      refine S_aload_n (pc := 1168) dL_law_1168 rfl ?_
      refine S_aload_n (pc := 1169) dL_law_1169 rfl ?_
      refine S_iload (pc := 1170) dL_law_1170 rfl ?_
      refine S_iconst (pc := 1172) (v := (nI 1)) dL_law_1172 kI_1 ?_
      refine S_iadd (pc := 1173) dL_law_1173 ?_
      refine S_ldS (pc := 1174) dL_law_1174 (fun x_127 => ?_)
      refine S_aload_n (pc := 1175) dL_law_1175 rfl ?_
      refine Y_SH (pc := 1176) (st := []) (kc' := (kc + 3)) (ks' := (ks + 18)) (ktL_members r1 x_127 r3) w992 w0 ⟨by decide, by decide⟩ (show Option.map _ (parseMethodDescriptor _) = some 3 by decide +kernel) w991 w990 (RO.mk rfl rfl (ble_le (show kc + 3 ≤ 601024 by omega)) (ble_le (show ks + 18 ≤ 7293034 by omega))) rfl rfl rfl dL_law_1176 ⟨rfl, rfl⟩ (fun x_128 => ?_)
      refine Z_istore (pc := 1179) (lv' := [some (.ref r0), some (.ref r1), some (.ref r2), some (.ref r3), some (.int v4), some (.int x_128), none]) dL_law_1179 rfl rfl rfl ?_
      refine S_aload_n (pc := 1181) dL_law_1181 rfl ?_
      refine S_aload_n (pc := 1182) dL_law_1182 rfl ?_
      refine S_iload (pc := 1183) dL_law_1183 rfl ?_
      refine S_iconst (pc := 1185) (v := (nI 1)) dL_law_1185 kI_1 ?_
      refine S_iadd (pc := 1186) dL_law_1186 ?_
      refine S_ldS (pc := 1187) dL_law_1187 (fun x_129 => ?_)
      refine Y_Vi (pc := 1188) (st := []) (kc' := (kc + 3)) (ks' := (ks + 18)) (ktX9_members r2 x_129) mw_X9_members mv_X9_members w1530 (RO.mk rfl rfl (ble_le (show (kc + 3) + 0 ≤ 601024 by omega)) (ble_le (show (ks + 18) + 0 ≤ 7293034 by omega))) rfl rfl rfl dL_law_1188 ⟨rfl, rfl⟩ (fun x_130 => ?_)
      refine Z_istore (pc := 1191) (lv' := [some (.ref r0), some (.ref r1), some (.ref r2), some (.ref r3), some (.int v4), some (.int x_128), some (.int x_130)]) dL_law_1191 rfl rfl rfl ?_
      refine S_aload_n (pc := 1193) dL_law_1193 rfl ?_
      refine Y_Vi (pc := 1194) (st := []) (kc' := (kc + 3)) (ks' := (ks + 18)) (ktX9_thrown r2) mw_X9_thrown mv_X9_thrown w1407 (RO.mk rfl rfl (ble_le (show (kc + 3) + 0 ≤ 601024 by omega)) (ble_le (show (ks + 18) + 0 ≤ 7293034 by omega))) rfl rfl rfl dL_law_1194 ⟨rfl, rfl⟩ (fun x_131 => ?_)
      refine S_iload (pc := 1197) dL_law_1197 rfl ?_
      refine S_icmpeq (pc := 1199) (tgt := 1204) dL_law_1199 (by decide) ?_ ?_
      · refine S_iload (pc := 1204) dL_law_1204 rfl ?_
        refine S_ifne (pc := 1206) (tgt := 1221) dL_law_1206 (by decide) ?_ ?_
        · refine S_goto (pc := 1221) (tgt := 2382) dL_law_1221 (by decide) ?_
          exact (S_lv (lv0 := [some (.ref r0), some (.ref r1), some (.ref r2), some (.ref r3), some (.int v4), none, none]) (And.intro rfl (And.intro rfl (And.intro rfl (And.intro rfl (And.intro rfl trivial))))) (sL_law_2382 (h23 (kc + 3) (ks + 18) (by omega) (by omega)) r0 r1 r2 r3 v4))
        · refine S_aload_n (pc := 1209) dL_law_1209 rfl ?_
          refine S_iconst (pc := 1210) (v := (nI 0)) dL_law_1210 kI_0 ?_
          refine S_ldJ (pc := 1211) dL_law_1211 (fun y_132 => ?_)
          refine S_iload (pc := 1212) dL_law_1212 rfl ?_
          refine S_i2l (pc := 1214) dL_law_1214 ?_
          refine S_lcmp (pc := 1215) dL_law_1215 ?_
          refine S_ifeq (pc := 1216) (tgt := 1221) dL_law_1216 (by decide) ?_ ?_
          · refine S_goto (pc := 1221) (tgt := 2382) dL_law_1221 (by decide) ?_
            exact (S_lv (lv0 := [some (.ref r0), some (.ref r1), some (.ref r2), some (.ref r3), some (.int v4), none, none]) (And.intro rfl (And.intro rfl (And.intro rfl (And.intro rfl (And.intro rfl trivial))))) (sL_law_2382 (h23 (kc + 3) (ks + 18) (by omega) (by omega)) r0 r1 r2 r3 v4))
          · refine S_iconst (pc := 1219) (v := (nI 0)) dL_law_1219 kI_0 ?_
            exact S_zret (pc := 1220) ⟨ble_le (show _ ≤ 601024 by omega), ble_le (show _ ≤ 7293034 by omega)⟩ rfl rfl dL_law_1220
      · refine S_iconst (pc := 1202) (v := (nI 0)) dL_law_1202 kI_0 ?_
        exact S_zret (pc := 1203) ⟨ble_le (show _ ≤ 601024 by omega), ble_le (show _ ≤ 7293034 by omega)⟩ rfl rfl dL_law_1203
    refine S_case (x := (x_13 &&& (nI 31))) (v := (nI 13)) (fun n13 => ?_) (fun n13 => ?_)
    · refine S_tsI (pc := 40) (tgt := 1224) n13 dL_law_40 (by decide) rfl (by decide) ?_
      refine S_aload_n (pc := 1224) dL_law_1224 rfl ?_
      refine S_aload_n (pc := 1225) dL_law_1225 rfl ?_
      refine S_iload (pc := 1226) dL_law_1226 rfl ?_
      refine S_iconst (pc := 1228) (v := (nI 1)) dL_law_1228 kI_1 ?_
      refine S_iadd (pc := 1229) dL_law_1229 ?_
      refine S_ldS (pc := 1230) dL_law_1230 (fun x_133 => ?_)
      refine S_aload_n (pc := 1231) dL_law_1231 rfl ?_
      refine S_iload (pc := 1232) dL_law_1232 rfl ?_
      refine S_iconst (pc := 1234) (v := (nI 2)) dL_law_1234 kI_2 ?_
      refine S_iadd (pc := 1235) dL_law_1235 ?_
      refine S_ldS (pc := 1236) dL_law_1236 (fun x_134 => ?_)
      refine S_aload_n (pc := 1237) dL_law_1237 rfl ?_
      refine S_iload (pc := 1238) dL_law_1238 rfl ?_
      refine S_iconst (pc := 1240) (v := (nI 3)) dL_law_1240 kI_3 ?_
      refine S_iadd (pc := 1241) dL_law_1241 ?_
      refine S_ldS (pc := 1242) dL_law_1242 (fun x_135 => ?_)
      refine S_aload_n (pc := 1243) dL_law_1243 rfl ?_
      refine Y_SH (pc := 1244) (st := []) (kc' := (kc + 3)) (ks' := (ks + 18)) (ktL_memberInfo r1 x_133 x_134 x_135 r3) w999 w0 ⟨by decide, by decide⟩ (show Option.map _ (parseMethodDescriptor _) = some 5 by decide +kernel) w998 w997 (RO.mk rfl rfl (ble_le (show kc + 3 ≤ 601024 by omega)) (ble_le (show ks + 18 ≤ 7293034 by omega))) rfl rfl rfl dL_law_1244 ⟨rfl, rfl⟩ (fun x_136 => ?_)
      refine Z_istore (pc := 1247) (lv' := [some (.ref r0), some (.ref r1), some (.ref r2), some (.ref r3), some (.int v4), some (.int x_136), none]) dL_law_1247 rfl rfl rfl ?_
      refine S_aload_n (pc := 1249) dL_law_1249 rfl ?_
      refine S_aload_n (pc := 1250) dL_law_1250 rfl ?_
      refine S_iload (pc := 1251) dL_law_1251 rfl ?_
      refine S_iconst (pc := 1253) (v := (nI 1)) dL_law_1253 kI_1 ?_
      refine S_iadd (pc := 1254) dL_law_1254 ?_
      refine S_ldS (pc := 1255) dL_law_1255 (fun x_137 => ?_)
      refine S_aload_n (pc := 1256) dL_law_1256 rfl ?_
      refine S_iload (pc := 1257) dL_law_1257 rfl ?_
      refine S_iconst (pc := 1259) (v := (nI 2)) dL_law_1259 kI_2 ?_
      refine S_iadd (pc := 1260) dL_law_1260 ?_
      refine S_ldS (pc := 1261) dL_law_1261 (fun x_138 => ?_)
      refine S_aload_n (pc := 1262) dL_law_1262 rfl ?_
      refine S_iload (pc := 1263) dL_law_1263 rfl ?_
      refine S_iconst (pc := 1265) (v := (nI 3)) dL_law_1265 kI_3 ?_
      refine S_iadd (pc := 1266) dL_law_1266 ?_
      refine S_ldS (pc := 1267) dL_law_1267 (fun x_139 => ?_)
      refine Y_Vi (pc := 1268) (st := []) (kc' := (kc + 3)) (ks' := (ks + 18)) (ktX9_memberInfo r2 x_137 x_138 x_139) mw_X9_memberInfo mv_X9_memberInfo w1534 (RO.mk rfl rfl (ble_le (show (kc + 3) + 0 ≤ 601024 by omega)) (ble_le (show (ks + 18) + 0 ≤ 7293034 by omega))) rfl rfl rfl dL_law_1268 ⟨rfl, rfl⟩ (fun x_140 => ?_)
      refine Z_istore (pc := 1271) (lv' := [some (.ref r0), some (.ref r1), some (.ref r2), some (.ref r3), some (.int v4), some (.int x_136), some (.int x_140)]) dL_law_1271 rfl rfl rfl ?_
      refine S_aload_n (pc := 1273) dL_law_1273 rfl ?_
      refine Y_Vi (pc := 1274) (st := []) (kc' := (kc + 3)) (ks' := (ks + 18)) (ktX9_thrown r2) mw_X9_thrown mv_X9_thrown w1407 (RO.mk rfl rfl (ble_le (show (kc + 3) + 0 ≤ 601024 by omega)) (ble_le (show (ks + 18) + 0 ≤ 7293034 by omega))) rfl rfl rfl dL_law_1274 ⟨rfl, rfl⟩ (fun x_141 => ?_)
      refine S_iload (pc := 1277) dL_law_1277 rfl ?_
      refine S_icmpeq (pc := 1279) (tgt := 1284) dL_law_1279 (by decide) ?_ ?_
      · refine S_iload (pc := 1284) dL_law_1284 rfl ?_
        refine S_ifne (pc := 1286) (tgt := 1301) dL_law_1286 (by decide) ?_ ?_
        · refine S_goto (pc := 1301) (tgt := 2382) dL_law_1301 (by decide) ?_
          exact (S_lv (lv0 := [some (.ref r0), some (.ref r1), some (.ref r2), some (.ref r3), some (.int v4), none, none]) (And.intro rfl (And.intro rfl (And.intro rfl (And.intro rfl (And.intro rfl trivial))))) (sL_law_2382 (h23 (kc + 3) (ks + 18) (by omega) (by omega)) r0 r1 r2 r3 v4))
        · refine S_aload_n (pc := 1289) dL_law_1289 rfl ?_
          refine S_iconst (pc := 1290) (v := (nI 0)) dL_law_1290 kI_0 ?_
          refine S_ldJ (pc := 1291) dL_law_1291 (fun y_142 => ?_)
          refine S_iload (pc := 1292) dL_law_1292 rfl ?_
          refine S_i2l (pc := 1294) dL_law_1294 ?_
          refine S_lcmp (pc := 1295) dL_law_1295 ?_
          refine S_ifeq (pc := 1296) (tgt := 1301) dL_law_1296 (by decide) ?_ ?_
          · refine S_goto (pc := 1301) (tgt := 2382) dL_law_1301 (by decide) ?_
            exact (S_lv (lv0 := [some (.ref r0), some (.ref r1), some (.ref r2), some (.ref r3), some (.int v4), none, none]) (And.intro rfl (And.intro rfl (And.intro rfl (And.intro rfl (And.intro rfl trivial))))) (sL_law_2382 (h23 (kc + 3) (ks + 18) (by omega) (by omega)) r0 r1 r2 r3 v4))
          · refine S_iconst (pc := 1299) (v := (nI 0)) dL_law_1299 kI_0 ?_
            exact S_zret (pc := 1300) ⟨ble_le (show _ ≤ 601024 by omega), ble_le (show _ ≤ 7293034 by omega)⟩ rfl rfl dL_law_1300
      · refine S_iconst (pc := 1282) (v := (nI 0)) dL_law_1282 kI_0 ?_
        exact S_zret (pc := 1283) ⟨ble_le (show _ ≤ 601024 by omega), ble_le (show _ ≤ 7293034 by omega)⟩ rfl rfl dL_law_1283
    refine S_case (x := (x_13 &&& (nI 31))) (v := (nI 14)) (fun n14 => ?_) (fun n14 => ?_)
    · refine S_tsI (pc := 40) (tgt := 1304) n14 dL_law_40 (by decide) rfl (by decide) ?_
      refine S_aload_n (pc := 1304) dL_law_1304 rfl ?_
      refine S_aload_n (pc := 1305) dL_law_1305 rfl ?_
      refine S_iload (pc := 1306) dL_law_1306 rfl ?_
      refine S_iconst (pc := 1308) (v := (nI 1)) dL_law_1308 kI_1 ?_
      refine S_iadd (pc := 1309) dL_law_1309 ?_
      refine S_ldS (pc := 1310) dL_law_1310 (fun x_143 => ?_)
      refine S_aload_n (pc := 1311) dL_law_1311 rfl ?_
      refine S_iload (pc := 1312) dL_law_1312 rfl ?_
      refine S_iconst (pc := 1314) (v := (nI 2)) dL_law_1314 kI_2 ?_
      refine S_iadd (pc := 1315) dL_law_1315 ?_
      refine S_ldS (pc := 1316) dL_law_1316 (fun x_144 => ?_)
      refine S_aload_n (pc := 1317) dL_law_1317 rfl ?_
      refine S_iload (pc := 1318) dL_law_1318 rfl ?_
      refine S_iconst (pc := 1320) (v := (nI 3)) dL_law_1320 kI_3 ?_
      refine S_iadd (pc := 1321) dL_law_1321 ?_
      refine S_ldS (pc := 1322) dL_law_1322 (fun x_145 => ?_)
      refine S_aload_n (pc := 1323) dL_law_1323 rfl ?_
      refine Y_SH (pc := 1324) (st := []) (kc' := (kc + 3)) (ks' := (ks + 18)) (ktL_fits r1 x_143 x_144 x_145 r3) w1006 w0 ⟨by decide, by decide⟩ (show Option.map _ (parseMethodDescriptor _) = some 5 by decide +kernel) w1005 w1004 (RO.mk rfl rfl (ble_le (show kc + 3 ≤ 601024 by omega)) (ble_le (show ks + 18 ≤ 7293034 by omega))) rfl rfl rfl dL_law_1324 ⟨rfl, rfl⟩ (fun x_146 => ?_)
      refine Z_istore (pc := 1327) (lv' := [some (.ref r0), some (.ref r1), some (.ref r2), some (.ref r3), some (.int v4), some (.int x_146), none]) dL_law_1327 rfl rfl rfl ?_
      refine S_aload_n (pc := 1329) dL_law_1329 rfl ?_
      refine S_aload_n (pc := 1330) dL_law_1330 rfl ?_
      refine S_iload (pc := 1331) dL_law_1331 rfl ?_
      refine S_iconst (pc := 1333) (v := (nI 1)) dL_law_1333 kI_1 ?_
      refine S_iadd (pc := 1334) dL_law_1334 ?_
      refine S_ldS (pc := 1335) dL_law_1335 (fun x_147 => ?_)
      refine S_aload_n (pc := 1336) dL_law_1336 rfl ?_
      refine S_iload (pc := 1337) dL_law_1337 rfl ?_
      refine S_iconst (pc := 1339) (v := (nI 2)) dL_law_1339 kI_2 ?_
      refine S_iadd (pc := 1340) dL_law_1340 ?_
      refine S_ldS (pc := 1341) dL_law_1341 (fun x_148 => ?_)
      refine S_aload_n (pc := 1342) dL_law_1342 rfl ?_
      refine S_iload (pc := 1343) dL_law_1343 rfl ?_
      refine S_iconst (pc := 1345) (v := (nI 3)) dL_law_1345 kI_3 ?_
      refine S_iadd (pc := 1346) dL_law_1346 ?_
      refine S_ldS (pc := 1347) dL_law_1347 (fun x_149 => ?_)
      refine Y_Vi (pc := 1348) (st := []) (kc' := (kc + 3)) (ks' := (ks + 18)) (ktX9_fits r2 x_147 x_148 x_149) mw_X9_fits mv_X9_fits w1542 (RO.mk rfl rfl (ble_le (show (kc + 3) + 0 ≤ 601024 by omega)) (ble_le (show (ks + 18) + 0 ≤ 7293034 by omega))) rfl rfl rfl dL_law_1348 ⟨rfl, rfl⟩ (fun x_150 => ?_)
      refine Z_istore (pc := 1351) (lv' := [some (.ref r0), some (.ref r1), some (.ref r2), some (.ref r3), some (.int v4), some (.int x_146), some (.int x_150)]) dL_law_1351 rfl rfl rfl ?_
      refine S_aload_n (pc := 1353) dL_law_1353 rfl ?_
      refine Y_Vi (pc := 1354) (st := []) (kc' := (kc + 3)) (ks' := (ks + 18)) (ktX9_thrown r2) mw_X9_thrown mv_X9_thrown w1407 (RO.mk rfl rfl (ble_le (show (kc + 3) + 0 ≤ 601024 by omega)) (ble_le (show (ks + 18) + 0 ≤ 7293034 by omega))) rfl rfl rfl dL_law_1354 ⟨rfl, rfl⟩ (fun x_151 => ?_)
      refine S_iload (pc := 1357) dL_law_1357 rfl ?_
      refine S_icmpeq (pc := 1359) (tgt := 1364) dL_law_1359 (by decide) ?_ ?_
      · refine S_iload (pc := 1364) dL_law_1364 rfl ?_
        refine S_ifne (pc := 1366) (tgt := 1388) dL_law_1366 (by decide) ?_ ?_
        · refine S_goto (pc := 1388) (tgt := 2382) dL_law_1388 (by decide) ?_
          exact (S_lv (lv0 := [some (.ref r0), some (.ref r1), some (.ref r2), some (.ref r3), some (.int v4), none, none]) (And.intro rfl (And.intro rfl (And.intro rfl (And.intro rfl (And.intro rfl trivial))))) (sL_law_2382 (h23 (kc + 3) (ks + 18) (by omega) (by omega)) r0 r1 r2 r3 v4))
        · refine S_aload_n (pc := 1369) dL_law_1369 rfl ?_
          refine S_iconst (pc := 1370) (v := (nI 0)) dL_law_1370 kI_0 ?_
          refine S_ldJ (pc := 1371) dL_law_1371 (fun y_152 => ?_)
          refine S_iload (pc := 1372) dL_law_1372 rfl ?_
          refine S_ifeq (pc := 1374) (tgt := 1381) dL_law_1374 (by decide) ?_ ?_
          · refine S_lconst (pc := 1381) (v := (0 : Int64)) dL_law_1381 rfl ?_
            exact (S_lv (lv0 := [some (.ref r0), some (.ref r1), some (.ref r2), some (.ref r3), some (.int v4), none, none]) (And.intro rfl (And.intro rfl (And.intro rfl (And.intro rfl (And.intro rfl trivial))))) (sL_law_1382 (kc + 3) (ks + 18) (by omega) (by omega) (fun a b ha hb => h23 a b (by omega) (by omega)) r0 r1 r2 r3 v4 y_152 (0 : Int64)))
          · refine S_lconst (pc := 1377) (v := (1 : Int64)) dL_law_1377 rfl ?_
            refine S_goto (pc := 1378) (tgt := 1382) dL_law_1378 (by decide) ?_
            exact (S_lv (lv0 := [some (.ref r0), some (.ref r1), some (.ref r2), some (.ref r3), some (.int v4), none, none]) (And.intro rfl (And.intro rfl (And.intro rfl (And.intro rfl (And.intro rfl trivial))))) (sL_law_1382 (kc + 3) (ks + 18) (by omega) (by omega) (fun a b ha hb => h23 a b (by omega) (by omega)) r0 r1 r2 r3 v4 y_152 (1 : Int64)))
      · refine S_iconst (pc := 1362) (v := (nI 0)) dL_law_1362 kI_0 ?_
        exact S_zret (pc := 1363) ⟨ble_le (show _ ≤ 601024 by omega), ble_le (show _ ≤ 7293034 by omega)⟩ rfl rfl dL_law_1363
    refine S_case (x := (x_13 &&& (nI 31))) (v := (nI 15)) (fun n15 => ?_) (fun n15 => ?_)
    · refine S_tsI (pc := 40) (tgt := 1391) n15 dL_law_40 (by decide) rfl (by decide) ?_
      refine S_aload_n (pc := 1391) dL_law_1391 rfl ?_
      refine S_aload_n (pc := 1392) dL_law_1392 rfl ?_
      refine S_iload (pc := 1393) dL_law_1393 rfl ?_
      refine S_iconst (pc := 1395) (v := (nI 1)) dL_law_1395 kI_1 ?_
      refine S_iadd (pc := 1396) dL_law_1396 ?_
      refine S_ldS (pc := 1397) dL_law_1397 (fun x_153 => ?_)
      refine S_aload_n (pc := 1398) dL_law_1398 rfl ?_
      refine S_iload (pc := 1399) dL_law_1399 rfl ?_
      refine S_iconst (pc := 1401) (v := (nI 2)) dL_law_1401 kI_2 ?_
      refine S_iadd (pc := 1402) dL_law_1402 ?_
      refine S_ldS (pc := 1403) dL_law_1403 (fun x_154 => ?_)
      refine S_aload_n (pc := 1404) dL_law_1404 rfl ?_
      refine S_iload (pc := 1405) dL_law_1405 rfl ?_
      refine S_iconst (pc := 1407) (v := (nI 3)) dL_law_1407 kI_3 ?_
      refine S_iadd (pc := 1408) dL_law_1408 ?_
      refine S_ldS (pc := 1409) dL_law_1409 (fun x_155 => ?_)
      refine S_aload_n (pc := 1410) dL_law_1410 rfl ?_
      refine Y_SH (pc := 1411) (st := []) (kc' := (kc + 3)) (ks' := (ks + 18)) (ktL_field r1 x_153 x_154 x_155 r3) w1014 w0 ⟨by decide, by decide⟩ (show Option.map _ (parseMethodDescriptor _) = some 5 by decide +kernel) w1013 w1012 (RO.mk rfl rfl (ble_le (show kc + 3 ≤ 601024 by omega)) (ble_le (show ks + 18 ≤ 7293034 by omega))) rfl rfl rfl dL_law_1411 ⟨rfl, rfl⟩ (fun x_156 => ?_)
      refine Z_istore (pc := 1414) (lv' := [some (.ref r0), some (.ref r1), some (.ref r2), some (.ref r3), some (.int v4), some (.int x_156), none]) dL_law_1414 rfl rfl rfl ?_
      refine S_aload_n (pc := 1416) dL_law_1416 rfl ?_
      refine S_aload_n (pc := 1417) dL_law_1417 rfl ?_
      refine S_iload (pc := 1418) dL_law_1418 rfl ?_
      refine S_iconst (pc := 1420) (v := (nI 1)) dL_law_1420 kI_1 ?_
      refine S_iadd (pc := 1421) dL_law_1421 ?_
      refine S_ldS (pc := 1422) dL_law_1422 (fun x_157 => ?_)
      refine S_aload_n (pc := 1423) dL_law_1423 rfl ?_
      refine S_iload (pc := 1424) dL_law_1424 rfl ?_
      refine S_iconst (pc := 1426) (v := (nI 2)) dL_law_1426 kI_2 ?_
      refine S_iadd (pc := 1427) dL_law_1427 ?_
      refine S_ldS (pc := 1428) dL_law_1428 (fun x_158 => ?_)
      refine S_aload_n (pc := 1429) dL_law_1429 rfl ?_
      refine S_iload (pc := 1430) dL_law_1430 rfl ?_
      refine S_iconst (pc := 1432) (v := (nI 3)) dL_law_1432 kI_3 ?_
      refine S_iadd (pc := 1433) dL_law_1433 ?_
      refine S_ldS (pc := 1434) dL_law_1434 (fun x_159 => ?_)
      refine Y_Vi (pc := 1435) (st := []) (kc' := (kc + 3)) (ks' := (ks + 18)) (ktX9_field r2 x_157 x_158 x_159) mw_X9_field mv_X9_field w1549 (RO.mk rfl rfl (ble_le (show (kc + 3) + 0 ≤ 601024 by omega)) (ble_le (show (ks + 18) + 0 ≤ 7293034 by omega))) rfl rfl rfl dL_law_1435 ⟨rfl, rfl⟩ (fun x_160 => ?_)
      refine Z_istore (pc := 1438) (lv' := [some (.ref r0), some (.ref r1), some (.ref r2), some (.ref r3), some (.int v4), some (.int x_156), some (.int x_160)]) dL_law_1438 rfl rfl rfl ?_
      refine S_aload_n (pc := 1440) dL_law_1440 rfl ?_
      refine Y_Vi (pc := 1441) (st := []) (kc' := (kc + 3)) (ks' := (ks + 18)) (ktX9_thrown r2) mw_X9_thrown mv_X9_thrown w1407 (RO.mk rfl rfl (ble_le (show (kc + 3) + 0 ≤ 601024 by omega)) (ble_le (show (ks + 18) + 0 ≤ 7293034 by omega))) rfl rfl rfl dL_law_1441 ⟨rfl, rfl⟩ (fun x_161 => ?_)
      refine S_iload (pc := 1444) dL_law_1444 rfl ?_
      refine S_icmpeq (pc := 1446) (tgt := 1451) dL_law_1446 (by decide) ?_ ?_
      · refine S_iload (pc := 1451) dL_law_1451 rfl ?_
        refine S_ifne (pc := 1453) (tgt := 1468) dL_law_1453 (by decide) ?_ ?_
        · refine S_goto (pc := 1468) (tgt := 2382) dL_law_1468 (by decide) ?_
          exact (S_lv (lv0 := [some (.ref r0), some (.ref r1), some (.ref r2), some (.ref r3), some (.int v4), none, none]) (And.intro rfl (And.intro rfl (And.intro rfl (And.intro rfl (And.intro rfl trivial))))) (sL_law_2382 (h23 (kc + 3) (ks + 18) (by omega) (by omega)) r0 r1 r2 r3 v4))
        · refine S_aload_n (pc := 1456) dL_law_1456 rfl ?_
          refine S_iconst (pc := 1457) (v := (nI 0)) dL_law_1457 kI_0 ?_
          refine S_ldJ (pc := 1458) dL_law_1458 (fun y_162 => ?_)
          refine S_iload (pc := 1459) dL_law_1459 rfl ?_
          refine S_i2l (pc := 1461) dL_law_1461 ?_
          refine S_lcmp (pc := 1462) dL_law_1462 ?_
          refine S_ifeq (pc := 1463) (tgt := 1468) dL_law_1463 (by decide) ?_ ?_
          · refine S_goto (pc := 1468) (tgt := 2382) dL_law_1468 (by decide) ?_
            exact (S_lv (lv0 := [some (.ref r0), some (.ref r1), some (.ref r2), some (.ref r3), some (.int v4), none, none]) (And.intro rfl (And.intro rfl (And.intro rfl (And.intro rfl (And.intro rfl trivial))))) (sL_law_2382 (h23 (kc + 3) (ks + 18) (by omega) (by omega)) r0 r1 r2 r3 v4))
          · refine S_iconst (pc := 1466) (v := (nI 0)) dL_law_1466 kI_0 ?_
            exact S_zret (pc := 1467) ⟨ble_le (show _ ≤ 601024 by omega), ble_le (show _ ≤ 7293034 by omega)⟩ rfl rfl dL_law_1467
      · refine S_iconst (pc := 1449) (v := (nI 0)) dL_law_1449 kI_0 ?_
        exact S_zret (pc := 1450) ⟨ble_le (show _ ≤ 601024 by omega), ble_le (show _ ≤ 7293034 by omega)⟩ rfl rfl dL_law_1450
    refine S_case (x := (x_13 &&& (nI 31))) (v := (nI 16)) (fun n16 => ?_) (fun n16 => ?_)
    · refine S_tsI (pc := 40) (tgt := 1471) n16 dL_law_40 (by decide) rfl (by decide) ?_
      refine S_aload_n (pc := 1471) dL_law_1471 rfl ?_
      refine S_aload_n (pc := 1472) dL_law_1472 rfl ?_
      refine S_iload (pc := 1473) dL_law_1473 rfl ?_
      refine S_iconst (pc := 1475) (v := (nI 1)) dL_law_1475 kI_1 ?_
      refine S_iadd (pc := 1476) dL_law_1476 ?_
      refine S_ldS (pc := 1477) dL_law_1477 (fun x_163 => ?_)
      refine S_aload_n (pc := 1478) dL_law_1478 rfl ?_
      refine S_iload (pc := 1479) dL_law_1479 rfl ?_
      refine S_iconst (pc := 1481) (v := (nI 2)) dL_law_1481 kI_2 ?_
      refine S_iadd (pc := 1482) dL_law_1482 ?_
      refine S_ldS (pc := 1483) dL_law_1483 (fun x_164 => ?_)
      refine S_aload_n (pc := 1484) dL_law_1484 rfl ?_
      refine S_iload (pc := 1485) dL_law_1485 rfl ?_
      refine S_iconst (pc := 1487) (v := (nI 3)) dL_law_1487 kI_3 ?_
      refine S_iadd (pc := 1488) dL_law_1488 ?_
      refine S_ldS (pc := 1489) dL_law_1489 (fun x_165 => ?_)
      refine S_aload_n (pc := 1490) dL_law_1490 rfl ?_
      refine Y_SH (pc := 1491) (st := []) (kc' := (kc + 3)) (ks' := (ks + 18)) (ktL_method r1 x_163 x_164 x_165 r3) w1026 w0 ⟨by decide, by decide⟩ (show Option.map _ (parseMethodDescriptor _) = some 5 by decide +kernel) w1025 w1024 (RO.mk rfl rfl (ble_le (show kc + 3 ≤ 601024 by omega)) (ble_le (show ks + 18 ≤ 7293034 by omega))) rfl rfl rfl dL_law_1491 ⟨rfl, rfl⟩ (fun x_166 => ?_)
      refine Z_istore (pc := 1494) (lv' := [some (.ref r0), some (.ref r1), some (.ref r2), some (.ref r3), some (.int v4), some (.int x_166), none]) dL_law_1494 rfl rfl rfl ?_
      refine S_aload_n (pc := 1496) dL_law_1496 rfl ?_
      refine S_aload_n (pc := 1497) dL_law_1497 rfl ?_
      refine S_iload (pc := 1498) dL_law_1498 rfl ?_
      refine S_iconst (pc := 1500) (v := (nI 1)) dL_law_1500 kI_1 ?_
      refine S_iadd (pc := 1501) dL_law_1501 ?_
      refine S_ldS (pc := 1502) dL_law_1502 (fun x_167 => ?_)
      refine S_aload_n (pc := 1503) dL_law_1503 rfl ?_
      refine S_iload (pc := 1504) dL_law_1504 rfl ?_
      refine S_iconst (pc := 1506) (v := (nI 2)) dL_law_1506 kI_2 ?_
      refine S_iadd (pc := 1507) dL_law_1507 ?_
      refine S_ldS (pc := 1508) dL_law_1508 (fun x_168 => ?_)
      refine S_aload_n (pc := 1509) dL_law_1509 rfl ?_
      refine S_iload (pc := 1510) dL_law_1510 rfl ?_
      refine S_iconst (pc := 1512) (v := (nI 3)) dL_law_1512 kI_3 ?_
      refine S_iadd (pc := 1513) dL_law_1513 ?_
      refine S_ldS (pc := 1514) dL_law_1514 (fun x_169 => ?_)
      refine Y_Vi (pc := 1515) (st := []) (kc' := (kc + 3)) (ks' := (ks + 18)) (ktX9_method r2 x_167 x_168 x_169) mw_X9_method mv_X9_method w1553 (RO.mk rfl rfl (ble_le (show (kc + 3) + 0 ≤ 601024 by omega)) (ble_le (show (ks + 18) + 0 ≤ 7293034 by omega))) rfl rfl rfl dL_law_1515 ⟨rfl, rfl⟩ (fun x_170 => ?_)
      refine Z_istore (pc := 1518) (lv' := [some (.ref r0), some (.ref r1), some (.ref r2), some (.ref r3), some (.int v4), some (.int x_166), some (.int x_170)]) dL_law_1518 rfl rfl rfl ?_
      refine S_aload_n (pc := 1520) dL_law_1520 rfl ?_
      refine Y_Vi (pc := 1521) (st := []) (kc' := (kc + 3)) (ks' := (ks + 18)) (ktX9_thrown r2) mw_X9_thrown mv_X9_thrown w1407 (RO.mk rfl rfl (ble_le (show (kc + 3) + 0 ≤ 601024 by omega)) (ble_le (show (ks + 18) + 0 ≤ 7293034 by omega))) rfl rfl rfl dL_law_1521 ⟨rfl, rfl⟩ (fun x_171 => ?_)
      refine S_iload (pc := 1524) dL_law_1524 rfl ?_
      refine S_icmpeq (pc := 1526) (tgt := 1531) dL_law_1526 (by decide) ?_ ?_
      · refine S_iload (pc := 1531) dL_law_1531 rfl ?_
        refine S_ifne (pc := 1533) (tgt := 1548) dL_law_1533 (by decide) ?_ ?_
        · refine S_goto (pc := 1548) (tgt := 2382) dL_law_1548 (by decide) ?_
          exact (S_lv (lv0 := [some (.ref r0), some (.ref r1), some (.ref r2), some (.ref r3), some (.int v4), none, none]) (And.intro rfl (And.intro rfl (And.intro rfl (And.intro rfl (And.intro rfl trivial))))) (sL_law_2382 (h23 (kc + 3) (ks + 18) (by omega) (by omega)) r0 r1 r2 r3 v4))
        · refine S_aload_n (pc := 1536) dL_law_1536 rfl ?_
          refine S_iconst (pc := 1537) (v := (nI 0)) dL_law_1537 kI_0 ?_
          refine S_ldJ (pc := 1538) dL_law_1538 (fun y_172 => ?_)
          refine S_iload (pc := 1539) dL_law_1539 rfl ?_
          refine S_i2l (pc := 1541) dL_law_1541 ?_
          refine S_lcmp (pc := 1542) dL_law_1542 ?_
          refine S_ifeq (pc := 1543) (tgt := 1548) dL_law_1543 (by decide) ?_ ?_
          · refine S_goto (pc := 1548) (tgt := 2382) dL_law_1548 (by decide) ?_
            exact (S_lv (lv0 := [some (.ref r0), some (.ref r1), some (.ref r2), some (.ref r3), some (.int v4), none, none]) (And.intro rfl (And.intro rfl (And.intro rfl (And.intro rfl (And.intro rfl trivial))))) (sL_law_2382 (h23 (kc + 3) (ks + 18) (by omega) (by omega)) r0 r1 r2 r3 v4))
          · refine S_iconst (pc := 1546) (v := (nI 0)) dL_law_1546 kI_0 ?_
            exact S_zret (pc := 1547) ⟨ble_le (show _ ≤ 601024 by omega), ble_le (show _ ≤ 7293034 by omega)⟩ rfl rfl dL_law_1547
      · refine S_iconst (pc := 1529) (v := (nI 0)) dL_law_1529 kI_0 ?_
        exact S_zret (pc := 1530) ⟨ble_le (show _ ≤ 601024 by omega), ble_le (show _ ≤ 7293034 by omega)⟩ rfl rfl dL_law_1530
    refine S_case (x := (x_13 &&& (nI 31))) (v := (nI 17)) (fun n17 => ?_) (fun n17 => ?_)
    · refine S_tsI (pc := 40) (tgt := 1551) n17 dL_law_40 (by decide) rfl (by decide) ?_
      refine S_aload_n (pc := 1551) dL_law_1551 rfl ?_
      refine S_aload_n (pc := 1552) dL_law_1552 rfl ?_
      refine S_iload (pc := 1553) dL_law_1553 rfl ?_
      refine S_iconst (pc := 1555) (v := (nI 1)) dL_law_1555 kI_1 ?_
      refine S_iadd (pc := 1556) dL_law_1556 ?_
      refine S_ldS (pc := 1557) dL_law_1557 (fun x_173 => ?_)
      refine S_aload_n (pc := 1558) dL_law_1558 rfl ?_
      refine S_iload (pc := 1559) dL_law_1559 rfl ?_
      refine S_iconst (pc := 1561) (v := (nI 2)) dL_law_1561 kI_2 ?_
      refine S_iadd (pc := 1562) dL_law_1562 ?_
      refine S_ldS (pc := 1563) dL_law_1563 (fun x_174 => ?_)
      refine S_aload_n (pc := 1564) dL_law_1564 rfl ?_
      refine S_iload (pc := 1565) dL_law_1565 rfl ?_
      refine S_iconst (pc := 1567) (v := (nI 3)) dL_law_1567 kI_3 ?_
      refine S_iadd (pc := 1568) dL_law_1568 ?_
      refine S_ldS (pc := 1569) dL_law_1569 (fun x_175 => ?_)
      refine S_aload_n (pc := 1570) dL_law_1570 rfl ?_
      refine Y_SH (pc := 1571) (st := []) (kc' := (kc + 3)) (ks' := (ks + 18)) (ktL_selected r1 x_173 x_174 x_175 r3) w1035 w0 ⟨by decide, by decide⟩ (show Option.map _ (parseMethodDescriptor _) = some 5 by decide +kernel) w1034 w1033 (RO.mk rfl rfl (ble_le (show kc + 3 ≤ 601024 by omega)) (ble_le (show ks + 18 ≤ 7293034 by omega))) rfl rfl rfl dL_law_1571 ⟨rfl, rfl⟩ (fun x_176 => ?_)
      refine Z_istore (pc := 1574) (lv' := [some (.ref r0), some (.ref r1), some (.ref r2), some (.ref r3), some (.int v4), some (.int x_176), none]) dL_law_1574 rfl rfl rfl ?_
      refine S_aload_n (pc := 1576) dL_law_1576 rfl ?_
      refine S_aload_n (pc := 1577) dL_law_1577 rfl ?_
      refine S_iload (pc := 1578) dL_law_1578 rfl ?_
      refine S_iconst (pc := 1580) (v := (nI 1)) dL_law_1580 kI_1 ?_
      refine S_iadd (pc := 1581) dL_law_1581 ?_
      refine S_ldS (pc := 1582) dL_law_1582 (fun x_177 => ?_)
      refine S_aload_n (pc := 1583) dL_law_1583 rfl ?_
      refine S_iload (pc := 1584) dL_law_1584 rfl ?_
      refine S_iconst (pc := 1586) (v := (nI 2)) dL_law_1586 kI_2 ?_
      refine S_iadd (pc := 1587) dL_law_1587 ?_
      refine S_ldS (pc := 1588) dL_law_1588 (fun x_178 => ?_)
      refine S_aload_n (pc := 1589) dL_law_1589 rfl ?_
      refine S_iload (pc := 1590) dL_law_1590 rfl ?_
      refine S_iconst (pc := 1592) (v := (nI 3)) dL_law_1592 kI_3 ?_
      refine S_iadd (pc := 1593) dL_law_1593 ?_
      refine S_ldS (pc := 1594) dL_law_1594 (fun x_179 => ?_)
      refine Y_Vi (pc := 1595) (st := []) (kc' := (kc + 3)) (ks' := (ks + 18)) (ktX9_selected r2 x_177 x_178 x_179) mw_X9_selected mv_X9_selected w1565 (RO.mk rfl rfl (ble_le (show (kc + 3) + 0 ≤ 601024 by omega)) (ble_le (show (ks + 18) + 0 ≤ 7293034 by omega))) rfl rfl rfl dL_law_1595 ⟨rfl, rfl⟩ (fun x_180 => ?_)
      refine Z_istore (pc := 1598) (lv' := [some (.ref r0), some (.ref r1), some (.ref r2), some (.ref r3), some (.int v4), some (.int x_176), some (.int x_180)]) dL_law_1598 rfl rfl rfl ?_
      refine S_aload_n (pc := 1600) dL_law_1600 rfl ?_
      refine Y_Vi (pc := 1601) (st := []) (kc' := (kc + 3)) (ks' := (ks + 18)) (ktX9_thrown r2) mw_X9_thrown mv_X9_thrown w1407 (RO.mk rfl rfl (ble_le (show (kc + 3) + 0 ≤ 601024 by omega)) (ble_le (show (ks + 18) + 0 ≤ 7293034 by omega))) rfl rfl rfl dL_law_1601 ⟨rfl, rfl⟩ (fun x_181 => ?_)
      refine S_iload (pc := 1604) dL_law_1604 rfl ?_
      refine S_icmpeq (pc := 1606) (tgt := 1611) dL_law_1606 (by decide) ?_ ?_
      · refine S_iload (pc := 1611) dL_law_1611 rfl ?_
        refine S_ifne (pc := 1613) (tgt := 1628) dL_law_1613 (by decide) ?_ ?_
        · refine S_goto (pc := 1628) (tgt := 2382) dL_law_1628 (by decide) ?_
          exact (S_lv (lv0 := [some (.ref r0), some (.ref r1), some (.ref r2), some (.ref r3), some (.int v4), none, none]) (And.intro rfl (And.intro rfl (And.intro rfl (And.intro rfl (And.intro rfl trivial))))) (sL_law_2382 (h23 (kc + 3) (ks + 18) (by omega) (by omega)) r0 r1 r2 r3 v4))
        · refine S_aload_n (pc := 1616) dL_law_1616 rfl ?_
          refine S_iconst (pc := 1617) (v := (nI 0)) dL_law_1617 kI_0 ?_
          refine S_ldJ (pc := 1618) dL_law_1618 (fun y_182 => ?_)
          refine S_iload (pc := 1619) dL_law_1619 rfl ?_
          refine S_i2l (pc := 1621) dL_law_1621 ?_
          refine S_lcmp (pc := 1622) dL_law_1622 ?_
          refine S_ifeq (pc := 1623) (tgt := 1628) dL_law_1623 (by decide) ?_ ?_
          · refine S_goto (pc := 1628) (tgt := 2382) dL_law_1628 (by decide) ?_
            exact (S_lv (lv0 := [some (.ref r0), some (.ref r1), some (.ref r2), some (.ref r3), some (.int v4), none, none]) (And.intro rfl (And.intro rfl (And.intro rfl (And.intro rfl (And.intro rfl trivial))))) (sL_law_2382 (h23 (kc + 3) (ks + 18) (by omega) (by omega)) r0 r1 r2 r3 v4))
          · refine S_iconst (pc := 1626) (v := (nI 0)) dL_law_1626 kI_0 ?_
            exact S_zret (pc := 1627) ⟨ble_le (show _ ≤ 601024 by omega), ble_le (show _ ≤ 7293034 by omega)⟩ rfl rfl dL_law_1627
      · refine S_iconst (pc := 1609) (v := (nI 0)) dL_law_1609 kI_0 ?_
        exact S_zret (pc := 1610) ⟨ble_le (show _ ≤ 601024 by omega), ble_le (show _ ≤ 7293034 by omega)⟩ rfl rfl dL_law_1610
    refine S_case (x := (x_13 &&& (nI 31))) (v := (nI 18)) (fun n18 => ?_) (fun n18 => ?_)
    · refine S_tsI (pc := 40) (tgt := 1631) n18 dL_law_40 (by decide) rfl (by decide) ?_
      refine S_aload_n (pc := 1631) dL_law_1631 rfl ?_
      refine S_aload_n (pc := 1632) dL_law_1632 rfl ?_
      refine S_iload (pc := 1633) dL_law_1633 rfl ?_
      refine S_iconst (pc := 1635) (v := (nI 1)) dL_law_1635 kI_1 ?_
      refine S_iadd (pc := 1636) dL_law_1636 ?_
      refine S_ldS (pc := 1637) dL_law_1637 (fun x_183 => ?_)
      refine S_aload_n (pc := 1638) dL_law_1638 rfl ?_
      refine S_iload (pc := 1639) dL_law_1639 rfl ?_
      refine S_iconst (pc := 1641) (v := (nI 2)) dL_law_1641 kI_2 ?_
      refine S_iadd (pc := 1642) dL_law_1642 ?_
      refine S_ldS (pc := 1643) dL_law_1643 (fun x_184 => ?_)
      refine S_aload_n (pc := 1644) dL_law_1644 rfl ?_
      refine S_iload (pc := 1645) dL_law_1645 rfl ?_
      refine S_iconst (pc := 1647) (v := (nI 3)) dL_law_1647 kI_3 ?_
      refine S_iadd (pc := 1648) dL_law_1648 ?_
      refine S_ldS (pc := 1649) dL_law_1649 (fun x_185 => ?_)
      refine S_aload_n (pc := 1650) dL_law_1650 rfl ?_
      refine S_iload (pc := 1651) dL_law_1651 rfl ?_
      refine S_iconst (pc := 1653) (v := (nI 4)) dL_law_1653 kI_4 ?_
      refine S_iadd (pc := 1654) dL_law_1654 ?_
      refine S_ldS (pc := 1655) dL_law_1655 (fun x_186 => ?_)
      refine S_aload_n (pc := 1656) dL_law_1656 rfl ?_
      refine Y_SH (pc := 1657) (st := []) (kc' := (kc + 3)) (ks' := (ks + 18)) (ktL_addClient r1 x_183 x_184 x_185 x_186 r3) w1045 w0 ⟨by decide, by decide⟩ (show Option.map _ (parseMethodDescriptor _) = some 6 by decide +kernel) w1044 w1043 (RO.mk rfl rfl (ble_le (show kc + 3 ≤ 601024 by omega)) (ble_le (show ks + 18 ≤ 7293034 by omega))) rfl rfl rfl dL_law_1657 ⟨rfl, rfl⟩ (fun x_187 => ?_)
      refine Z_istore (pc := 1660) (lv' := [some (.ref r0), some (.ref r1), some (.ref r2), some (.ref r3), some (.int v4), some (.int x_187), none]) dL_law_1660 rfl rfl rfl ?_
      refine S_aload_n (pc := 1662) dL_law_1662 rfl ?_
      refine S_aload_n (pc := 1663) dL_law_1663 rfl ?_
      refine S_iload (pc := 1664) dL_law_1664 rfl ?_
      refine S_iconst (pc := 1666) (v := (nI 1)) dL_law_1666 kI_1 ?_
      refine S_iadd (pc := 1667) dL_law_1667 ?_
      refine S_ldS (pc := 1668) dL_law_1668 (fun x_188 => ?_)
      refine S_aload_n (pc := 1669) dL_law_1669 rfl ?_
      refine S_iload (pc := 1670) dL_law_1670 rfl ?_
      refine S_iconst (pc := 1672) (v := (nI 2)) dL_law_1672 kI_2 ?_
      refine S_iadd (pc := 1673) dL_law_1673 ?_
      refine S_ldS (pc := 1674) dL_law_1674 (fun x_189 => ?_)
      refine S_aload_n (pc := 1675) dL_law_1675 rfl ?_
      refine S_iload (pc := 1676) dL_law_1676 rfl ?_
      refine S_iconst (pc := 1678) (v := (nI 3)) dL_law_1678 kI_3 ?_
      refine S_iadd (pc := 1679) dL_law_1679 ?_
      refine S_ldS (pc := 1680) dL_law_1680 (fun x_190 => ?_)
      refine S_aload_n (pc := 1681) dL_law_1681 rfl ?_
      refine S_iload (pc := 1682) dL_law_1682 rfl ?_
      refine S_iconst (pc := 1684) (v := (nI 4)) dL_law_1684 kI_4 ?_
      refine S_iadd (pc := 1685) dL_law_1685 ?_
      refine S_ldS (pc := 1686) dL_law_1686 (fun x_191 => ?_)
      refine Y_Vi (pc := 1687) (st := []) (kc' := (kc + 3)) (ks' := (ks + 18)) (ktX9_addClient r2 x_188 x_189 x_190 x_191) mw_X9_addClient mv_X9_addClient w1573 (RO.mk rfl rfl (ble_le (show (kc + 3) + 0 ≤ 601024 by omega)) (ble_le (show (ks + 18) + 0 ≤ 7293034 by omega))) rfl rfl rfl dL_law_1687 ⟨rfl, rfl⟩ (fun x_192 => ?_)
      refine Z_istore (pc := 1690) (lv' := [some (.ref r0), some (.ref r1), some (.ref r2), some (.ref r3), some (.int v4), some (.int x_187), some (.int x_192)]) dL_law_1690 rfl rfl rfl ?_
      refine S_aload_n (pc := 1692) dL_law_1692 rfl ?_
      refine Y_Vi (pc := 1693) (st := []) (kc' := (kc + 3)) (ks' := (ks + 18)) (ktX9_thrown r2) mw_X9_thrown mv_X9_thrown w1407 (RO.mk rfl rfl (ble_le (show (kc + 3) + 0 ≤ 601024 by omega)) (ble_le (show (ks + 18) + 0 ≤ 7293034 by omega))) rfl rfl rfl dL_law_1693 ⟨rfl, rfl⟩ (fun x_193 => ?_)
      refine S_iload (pc := 1696) dL_law_1696 rfl ?_
      refine S_icmpeq (pc := 1698) (tgt := 1703) dL_law_1698 (by decide) ?_ ?_
      · refine S_iload (pc := 1703) dL_law_1703 rfl ?_
        refine S_ifne (pc := 1705) (tgt := 1720) dL_law_1705 (by decide) ?_ ?_
        · refine S_goto (pc := 1720) (tgt := 2382) dL_law_1720 (by decide) ?_
          exact (S_lv (lv0 := [some (.ref r0), some (.ref r1), some (.ref r2), some (.ref r3), some (.int v4), none, none]) (And.intro rfl (And.intro rfl (And.intro rfl (And.intro rfl (And.intro rfl trivial))))) (sL_law_2382 (h23 (kc + 3) (ks + 18) (by omega) (by omega)) r0 r1 r2 r3 v4))
        · refine S_aload_n (pc := 1708) dL_law_1708 rfl ?_
          refine S_iconst (pc := 1709) (v := (nI 0)) dL_law_1709 kI_0 ?_
          refine S_ldJ (pc := 1710) dL_law_1710 (fun y_194 => ?_)
          refine S_iload (pc := 1711) dL_law_1711 rfl ?_
          refine S_i2l (pc := 1713) dL_law_1713 ?_
          refine S_lcmp (pc := 1714) dL_law_1714 ?_
          refine S_ifeq (pc := 1715) (tgt := 1720) dL_law_1715 (by decide) ?_ ?_
          · refine S_goto (pc := 1720) (tgt := 2382) dL_law_1720 (by decide) ?_
            exact (S_lv (lv0 := [some (.ref r0), some (.ref r1), some (.ref r2), some (.ref r3), some (.int v4), none, none]) (And.intro rfl (And.intro rfl (And.intro rfl (And.intro rfl (And.intro rfl trivial))))) (sL_law_2382 (h23 (kc + 3) (ks + 18) (by omega) (by omega)) r0 r1 r2 r3 v4))
          · refine S_iconst (pc := 1718) (v := (nI 0)) dL_law_1718 kI_0 ?_
            exact S_zret (pc := 1719) ⟨ble_le (show _ ≤ 601024 by omega), ble_le (show _ ≤ 7293034 by omega)⟩ rfl rfl dL_law_1719
      · refine S_iconst (pc := 1701) (v := (nI 0)) dL_law_1701 kI_0 ?_
        exact S_zret (pc := 1702) ⟨ble_le (show _ ≤ 601024 by omega), ble_le (show _ ≤ 7293034 by omega)⟩ rfl rfl dL_law_1702
    refine S_case (x := (x_13 &&& (nI 31))) (v := (nI 19)) (fun n19 => ?_) (fun n19 => ?_)
    · refine S_tsI (pc := 40) (tgt := 1723) n19 dL_law_40 (by decide) rfl (by decide) ?_
      refine S_aload_n (pc := 1723) dL_law_1723 rfl ?_
      refine S_aload_n (pc := 1724) dL_law_1724 rfl ?_
      refine S_iload (pc := 1725) dL_law_1725 rfl ?_
      refine S_iconst (pc := 1727) (v := (nI 1)) dL_law_1727 kI_1 ?_
      refine S_iadd (pc := 1728) dL_law_1728 ?_
      refine S_ldS (pc := 1729) dL_law_1729 (fun x_195 => ?_)
      refine S_aload_n (pc := 1730) dL_law_1730 rfl ?_
      refine S_iload (pc := 1731) dL_law_1731 rfl ?_
      refine S_iconst (pc := 1733) (v := (nI 2)) dL_law_1733 kI_2 ?_
      refine S_iadd (pc := 1734) dL_law_1734 ?_
      refine S_ldS (pc := 1735) dL_law_1735 (fun x_196 => ?_)
      refine S_aload_n (pc := 1736) dL_law_1736 rfl ?_
      refine Y_SH (pc := 1737) (st := []) (kc' := (kc + 3)) (ks' := (ks + 18)) (ktL_setBase r1 x_195 x_196 r3) w1062 w0 ⟨by decide, by decide⟩ (show Option.map _ (parseMethodDescriptor _) = some 4 by decide +kernel) w1061 w1060 (RO.mk rfl rfl (ble_le (show kc + 3 ≤ 601024 by omega)) (ble_le (show ks + 18 ≤ 7293034 by omega))) rfl rfl rfl dL_law_1737 ⟨rfl, rfl⟩ (fun x_197 => ?_)
      refine Z_istore (pc := 1740) (lv' := [some (.ref r0), some (.ref r1), some (.ref r2), some (.ref r3), some (.int v4), some (.int x_197), none]) dL_law_1740 rfl rfl rfl ?_
      refine S_aload_n (pc := 1742) dL_law_1742 rfl ?_
      refine S_aload_n (pc := 1743) dL_law_1743 rfl ?_
      refine S_iload (pc := 1744) dL_law_1744 rfl ?_
      refine S_iconst (pc := 1746) (v := (nI 1)) dL_law_1746 kI_1 ?_
      refine S_iadd (pc := 1747) dL_law_1747 ?_
      refine S_ldS (pc := 1748) dL_law_1748 (fun x_198 => ?_)
      refine S_aload_n (pc := 1749) dL_law_1749 rfl ?_
      refine S_iload (pc := 1750) dL_law_1750 rfl ?_
      refine S_iconst (pc := 1752) (v := (nI 2)) dL_law_1752 kI_2 ?_
      refine S_iadd (pc := 1753) dL_law_1753 ?_
      refine S_ldS (pc := 1754) dL_law_1754 (fun x_199 => ?_)
      refine Y_Vi (pc := 1755) (st := []) (kc' := (kc + 3)) (ks' := (ks + 18)) (ktX9_setBase r2 x_198 x_199) mw_X9_setBase mv_X9_setBase w1577 (RO.mk rfl rfl (ble_le (show (kc + 3) + 0 ≤ 601024 by omega)) (ble_le (show (ks + 18) + 0 ≤ 7293034 by omega))) rfl rfl rfl dL_law_1755 ⟨rfl, rfl⟩ (fun x_200 => ?_)
      refine Z_istore (pc := 1758) (lv' := [some (.ref r0), some (.ref r1), some (.ref r2), some (.ref r3), some (.int v4), some (.int x_197), some (.int x_200)]) dL_law_1758 rfl rfl rfl ?_
      refine S_aload_n (pc := 1760) dL_law_1760 rfl ?_
      refine Y_Vi (pc := 1761) (st := []) (kc' := (kc + 3)) (ks' := (ks + 18)) (ktX9_thrown r2) mw_X9_thrown mv_X9_thrown w1407 (RO.mk rfl rfl (ble_le (show (kc + 3) + 0 ≤ 601024 by omega)) (ble_le (show (ks + 18) + 0 ≤ 7293034 by omega))) rfl rfl rfl dL_law_1761 ⟨rfl, rfl⟩ (fun x_201 => ?_)
      refine S_iload (pc := 1764) dL_law_1764 rfl ?_
      refine S_icmpeq (pc := 1766) (tgt := 1771) dL_law_1766 (by decide) ?_ ?_
      · refine S_iload (pc := 1771) dL_law_1771 rfl ?_
        refine S_ifne (pc := 1773) (tgt := 1788) dL_law_1773 (by decide) ?_ ?_
        · refine S_goto (pc := 1788) (tgt := 2382) dL_law_1788 (by decide) ?_
          exact (S_lv (lv0 := [some (.ref r0), some (.ref r1), some (.ref r2), some (.ref r3), some (.int v4), none, none]) (And.intro rfl (And.intro rfl (And.intro rfl (And.intro rfl (And.intro rfl trivial))))) (sL_law_2382 (h23 (kc + 3) (ks + 18) (by omega) (by omega)) r0 r1 r2 r3 v4))
        · refine S_aload_n (pc := 1776) dL_law_1776 rfl ?_
          refine S_iconst (pc := 1777) (v := (nI 0)) dL_law_1777 kI_0 ?_
          refine S_ldJ (pc := 1778) dL_law_1778 (fun y_202 => ?_)
          refine S_iload (pc := 1779) dL_law_1779 rfl ?_
          refine S_i2l (pc := 1781) dL_law_1781 ?_
          refine S_lcmp (pc := 1782) dL_law_1782 ?_
          refine S_ifeq (pc := 1783) (tgt := 1788) dL_law_1783 (by decide) ?_ ?_
          · refine S_goto (pc := 1788) (tgt := 2382) dL_law_1788 (by decide) ?_
            exact (S_lv (lv0 := [some (.ref r0), some (.ref r1), some (.ref r2), some (.ref r3), some (.int v4), none, none]) (And.intro rfl (And.intro rfl (And.intro rfl (And.intro rfl (And.intro rfl trivial))))) (sL_law_2382 (h23 (kc + 3) (ks + 18) (by omega) (by omega)) r0 r1 r2 r3 v4))
          · refine S_iconst (pc := 1786) (v := (nI 0)) dL_law_1786 kI_0 ?_
            exact S_zret (pc := 1787) ⟨ble_le (show _ ≤ 601024 by omega), ble_le (show _ ≤ 7293034 by omega)⟩ rfl rfl dL_law_1787
      · refine S_iconst (pc := 1769) (v := (nI 0)) dL_law_1769 kI_0 ?_
        exact S_zret (pc := 1770) ⟨ble_le (show _ ≤ 601024 by omega), ble_le (show _ ≤ 7293034 by omega)⟩ rfl rfl dL_law_1770
    refine S_case (x := (x_13 &&& (nI 31))) (v := (nI 20)) (fun n20 => ?_) (fun n20 => ?_)
    · refine S_tsI (pc := 40) (tgt := 1791) n20 dL_law_40 (by decide) rfl (by decide) ?_
      refine S_aload_n (pc := 1791) dL_law_1791 rfl ?_
      refine S_aload_n (pc := 1792) dL_law_1792 rfl ?_
      refine S_iload (pc := 1793) dL_law_1793 rfl ?_
      refine S_iconst (pc := 1795) (v := (nI 1)) dL_law_1795 kI_1 ?_
      refine S_iadd (pc := 1796) dL_law_1796 ?_
      refine S_ldS (pc := 1797) dL_law_1797 (fun x_203 => ?_)
      refine S_aload_n (pc := 1798) dL_law_1798 rfl ?_
      refine Y_SH (pc := 1799) (st := []) (kc' := (kc + 3)) (ks' := (ks + 18)) (ktL_removeClient r1 x_203 r3) w1082 w0 ⟨by decide, by decide⟩ (show Option.map _ (parseMethodDescriptor _) = some 3 by decide +kernel) w1081 w1080 (RO.mk rfl rfl (ble_le (show kc + 3 ≤ 601024 by omega)) (ble_le (show ks + 18 ≤ 7293034 by omega))) rfl rfl rfl dL_law_1799 ⟨rfl, rfl⟩ (fun x_204 => ?_)
      refine Z_istore (pc := 1802) (lv' := [some (.ref r0), some (.ref r1), some (.ref r2), some (.ref r3), some (.int v4), some (.int x_204), none]) dL_law_1802 rfl rfl rfl ?_
      refine S_aload_n (pc := 1804) dL_law_1804 rfl ?_
      refine S_aload_n (pc := 1805) dL_law_1805 rfl ?_
      refine S_iload (pc := 1806) dL_law_1806 rfl ?_
      refine S_iconst (pc := 1808) (v := (nI 1)) dL_law_1808 kI_1 ?_
      refine S_iadd (pc := 1809) dL_law_1809 ?_
      refine S_ldS (pc := 1810) dL_law_1810 (fun x_205 => ?_)
      refine Y_Vi (pc := 1811) (st := []) (kc' := (kc + 3)) (ks' := (ks + 18)) (ktX9_removeClient r2 x_205) mw_X9_removeClient mv_X9_removeClient w1589 (RO.mk rfl rfl (ble_le (show (kc + 3) + 0 ≤ 601024 by omega)) (ble_le (show (ks + 18) + 0 ≤ 7293034 by omega))) rfl rfl rfl dL_law_1811 ⟨rfl, rfl⟩ (fun x_206 => ?_)
      refine Z_istore (pc := 1814) (lv' := [some (.ref r0), some (.ref r1), some (.ref r2), some (.ref r3), some (.int v4), some (.int x_204), some (.int x_206)]) dL_law_1814 rfl rfl rfl ?_
      refine S_aload_n (pc := 1816) dL_law_1816 rfl ?_
      refine Y_Vi (pc := 1817) (st := []) (kc' := (kc + 3)) (ks' := (ks + 18)) (ktX9_thrown r2) mw_X9_thrown mv_X9_thrown w1407 (RO.mk rfl rfl (ble_le (show (kc + 3) + 0 ≤ 601024 by omega)) (ble_le (show (ks + 18) + 0 ≤ 7293034 by omega))) rfl rfl rfl dL_law_1817 ⟨rfl, rfl⟩ (fun x_207 => ?_)
      refine S_iload (pc := 1820) dL_law_1820 rfl ?_
      refine S_icmpeq (pc := 1822) (tgt := 1827) dL_law_1822 (by decide) ?_ ?_
      · refine S_iload (pc := 1827) dL_law_1827 rfl ?_
        refine S_ifne (pc := 1829) (tgt := 1844) dL_law_1829 (by decide) ?_ ?_
        · refine S_goto (pc := 1844) (tgt := 2382) dL_law_1844 (by decide) ?_
          exact (S_lv (lv0 := [some (.ref r0), some (.ref r1), some (.ref r2), some (.ref r3), some (.int v4), none, none]) (And.intro rfl (And.intro rfl (And.intro rfl (And.intro rfl (And.intro rfl trivial))))) (sL_law_2382 (h23 (kc + 3) (ks + 18) (by omega) (by omega)) r0 r1 r2 r3 v4))
        · refine S_aload_n (pc := 1832) dL_law_1832 rfl ?_
          refine S_iconst (pc := 1833) (v := (nI 0)) dL_law_1833 kI_0 ?_
          refine S_ldJ (pc := 1834) dL_law_1834 (fun y_208 => ?_)
          refine S_iload (pc := 1835) dL_law_1835 rfl ?_
          refine S_i2l (pc := 1837) dL_law_1837 ?_
          refine S_lcmp (pc := 1838) dL_law_1838 ?_
          refine S_ifeq (pc := 1839) (tgt := 1844) dL_law_1839 (by decide) ?_ ?_
          · refine S_goto (pc := 1844) (tgt := 2382) dL_law_1844 (by decide) ?_
            exact (S_lv (lv0 := [some (.ref r0), some (.ref r1), some (.ref r2), some (.ref r3), some (.int v4), none, none]) (And.intro rfl (And.intro rfl (And.intro rfl (And.intro rfl (And.intro rfl trivial))))) (sL_law_2382 (h23 (kc + 3) (ks + 18) (by omega) (by omega)) r0 r1 r2 r3 v4))
          · refine S_iconst (pc := 1842) (v := (nI 0)) dL_law_1842 kI_0 ?_
            exact S_zret (pc := 1843) ⟨ble_le (show _ ≤ 601024 by omega), ble_le (show _ ≤ 7293034 by omega)⟩ rfl rfl dL_law_1843
      · refine S_iconst (pc := 1825) (v := (nI 0)) dL_law_1825 kI_0 ?_
        exact S_zret (pc := 1826) ⟨ble_le (show _ ≤ 601024 by omega), ble_le (show _ ≤ 7293034 by omega)⟩ rfl rfl dL_law_1826
    refine S_case (x := (x_13 &&& (nI 31))) (v := (nI 21)) (fun n21 => ?_) (fun n21 => ?_)
    · refine S_tsI (pc := 40) (tgt := 1847) n21 dL_law_40 (by decide) rfl (by decide) ?_
      refine S_aload_n (pc := 1847) dL_law_1847 rfl ?_
      refine Y_Vi (pc := 1848) (st := []) (kc' := kc) (ks' := ks) (ktX8_clients r1) mw_X8_clients mv_X8_clients w585 (RO.mk rfl rfl (ble_le (show kc + 0 ≤ 601024 by omega)) (ble_le (show ks + 0 ≤ 7293034 by omega))) rfl rfl rfl dL_law_1848 ⟨rfl, rfl⟩ (fun x_209 => ?_)
      refine S_aload_n (pc := 1851) dL_law_1851 rfl ?_
      refine Y_Vi (pc := 1852) (st := [.int x_209]) (kc' := kc) (ks' := ks) (ktX9_clients r2) mw_X9_clients mv_X9_clients w1593 (RO.mk rfl rfl (ble_le (show kc + 0 ≤ 601024 by omega)) (ble_le (show ks + 0 ≤ 7293034 by omega))) rfl rfl rfl dL_law_1852 ⟨rfl, rfl⟩ (fun x_210 => ?_)
      refine S_icmpeq (pc := 1855) (tgt := 2382) dL_law_1855 (by decide) ?_ ?_
      · exact (sL_law_2382 (h23 kc ks (by omega) (by omega)) r0 r1 r2 r3 v4)
      · refine S_iconst (pc := 1858) (v := (nI 0)) dL_law_1858 kI_0 ?_
        exact S_zret (pc := 1859) ⟨ble_le (show _ ≤ 601024 by omega), ble_le (show _ ≤ 7293034 by omega)⟩ rfl rfl dL_law_1859
    refine S_case (x := (x_13 &&& (nI 31))) (v := (nI 22)) (fun n22 => ?_) (fun n22 => ?_)
    · refine S_tsI (pc := 40) (tgt := 1860) n22 dL_law_40 (by decide) rfl (by decide) ?_
      refine S_aload_n (pc := 1860) dL_law_1860 rfl ?_
      refine S_aload_n (pc := 1861) dL_law_1861 rfl ?_
      refine S_iload (pc := 1862) dL_law_1862 rfl ?_
      refine S_iconst (pc := 1864) (v := (nI 1)) dL_law_1864 kI_1 ?_
      refine S_iadd (pc := 1865) dL_law_1865 ?_
      refine S_ldS (pc := 1866) dL_law_1866 (fun x_211 => ?_)
      refine S_aload_n (pc := 1867) dL_law_1867 rfl ?_
      refine S_iload (pc := 1868) dL_law_1868 rfl ?_
      refine S_iconst (pc := 1870) (v := (nI 2)) dL_law_1870 kI_2 ?_
      refine S_iadd (pc := 1871) dL_law_1871 ?_
      refine S_ldS (pc := 1872) dL_law_1872 (fun x_212 => ?_)
      refine S_aload_n (pc := 1873) dL_law_1873 rfl ?_
      refine Y_SH (pc := 1874) (st := []) (kc' := (kc + 3)) (ks' := (ks + 18)) (ktL_clientInfo r1 x_211 x_212 r3) w1093 w0 ⟨by decide, by decide⟩ (show Option.map _ (parseMethodDescriptor _) = some 4 by decide +kernel) w1092 w1091 (RO.mk rfl rfl (ble_le (show kc + 3 ≤ 601024 by omega)) (ble_le (show ks + 18 ≤ 7293034 by omega))) rfl rfl rfl dL_law_1874 ⟨rfl, rfl⟩ (fun x_213 => ?_)
      refine Z_istore (pc := 1877) (lv' := [some (.ref r0), some (.ref r1), some (.ref r2), some (.ref r3), some (.int v4), some (.int x_213), none]) dL_law_1877 rfl rfl rfl ?_
      refine S_aload_n (pc := 1879) dL_law_1879 rfl ?_
      refine S_aload_n (pc := 1880) dL_law_1880 rfl ?_
      refine S_iload (pc := 1881) dL_law_1881 rfl ?_
      refine S_iconst (pc := 1883) (v := (nI 1)) dL_law_1883 kI_1 ?_
      refine S_iadd (pc := 1884) dL_law_1884 ?_
      refine S_ldS (pc := 1885) dL_law_1885 (fun x_214 => ?_)
      refine S_aload_n (pc := 1886) dL_law_1886 rfl ?_
      refine S_iload (pc := 1887) dL_law_1887 rfl ?_
      refine S_iconst (pc := 1889) (v := (nI 2)) dL_law_1889 kI_2 ?_
      refine S_iadd (pc := 1890) dL_law_1890 ?_
      refine S_ldS (pc := 1891) dL_law_1891 (fun x_215 => ?_)
      refine Y_Vi (pc := 1892) (st := []) (kc' := (kc + 3)) (ks' := (ks + 18)) (ktX9_clientInfo r2 x_214 x_215) mw_X9_clientInfo mv_X9_clientInfo w1597 (RO.mk rfl rfl (ble_le (show (kc + 3) + 0 ≤ 601024 by omega)) (ble_le (show (ks + 18) + 0 ≤ 7293034 by omega))) rfl rfl rfl dL_law_1892 ⟨rfl, rfl⟩ (fun x_216 => ?_)
      refine Z_istore (pc := 1895) (lv' := [some (.ref r0), some (.ref r1), some (.ref r2), some (.ref r3), some (.int v4), some (.int x_213), some (.int x_216)]) dL_law_1895 rfl rfl rfl ?_
      refine S_aload_n (pc := 1897) dL_law_1897 rfl ?_
      refine Y_Vi (pc := 1898) (st := []) (kc' := (kc + 3)) (ks' := (ks + 18)) (ktX9_thrown r2) mw_X9_thrown mv_X9_thrown w1407 (RO.mk rfl rfl (ble_le (show (kc + 3) + 0 ≤ 601024 by omega)) (ble_le (show (ks + 18) + 0 ≤ 7293034 by omega))) rfl rfl rfl dL_law_1898 ⟨rfl, rfl⟩ (fun x_217 => ?_)
      refine S_iload (pc := 1901) dL_law_1901 rfl ?_
      refine S_icmpeq (pc := 1903) (tgt := 1908) dL_law_1903 (by decide) ?_ ?_
      · refine S_iload (pc := 1908) dL_law_1908 rfl ?_
        refine S_ifne (pc := 1910) (tgt := 1925) dL_law_1910 (by decide) ?_ ?_
        · refine S_goto (pc := 1925) (tgt := 2382) dL_law_1925 (by decide) ?_
          exact (S_lv (lv0 := [some (.ref r0), some (.ref r1), some (.ref r2), some (.ref r3), some (.int v4), none, none]) (And.intro rfl (And.intro rfl (And.intro rfl (And.intro rfl (And.intro rfl trivial))))) (sL_law_2382 (h23 (kc + 3) (ks + 18) (by omega) (by omega)) r0 r1 r2 r3 v4))
        · refine S_aload_n (pc := 1913) dL_law_1913 rfl ?_
          refine S_iconst (pc := 1914) (v := (nI 0)) dL_law_1914 kI_0 ?_
          refine S_ldJ (pc := 1915) dL_law_1915 (fun y_218 => ?_)
          refine S_iload (pc := 1916) dL_law_1916 rfl ?_
          refine S_i2l (pc := 1918) dL_law_1918 ?_
          refine S_lcmp (pc := 1919) dL_law_1919 ?_
          refine S_ifeq (pc := 1920) (tgt := 1925) dL_law_1920 (by decide) ?_ ?_
          · refine S_goto (pc := 1925) (tgt := 2382) dL_law_1925 (by decide) ?_
            exact (S_lv (lv0 := [some (.ref r0), some (.ref r1), some (.ref r2), some (.ref r3), some (.int v4), none, none]) (And.intro rfl (And.intro rfl (And.intro rfl (And.intro rfl (And.intro rfl trivial))))) (sL_law_2382 (h23 (kc + 3) (ks + 18) (by omega) (by omega)) r0 r1 r2 r3 v4))
          · refine S_iconst (pc := 1923) (v := (nI 0)) dL_law_1923 kI_0 ?_
            exact S_zret (pc := 1924) ⟨ble_le (show _ ≤ 601024 by omega), ble_le (show _ ≤ 7293034 by omega)⟩ rfl rfl dL_law_1924
      · refine S_iconst (pc := 1906) (v := (nI 0)) dL_law_1906 kI_0 ?_
        exact S_zret (pc := 1907) ⟨ble_le (show _ ≤ 601024 by omega), ble_le (show _ ≤ 7293034 by omega)⟩ rfl rfl dL_law_1907
    refine S_case (x := (x_13 &&& (nI 31))) (v := (nI 23)) (fun n23 => ?_) (fun n23 => ?_)
    · refine S_tsI (pc := 40) (tgt := 1928) n23 dL_law_40 (by decide) rfl (by decide) ?_
      refine S_aload_n (pc := 1928) dL_law_1928 rfl ?_
      refine S_aload_n (pc := 1929) dL_law_1929 rfl ?_
      refine S_iload (pc := 1930) dL_law_1930 rfl ?_
      refine S_iconst (pc := 1932) (v := (nI 1)) dL_law_1932 kI_1 ?_
      refine S_iadd (pc := 1933) dL_law_1933 ?_
      refine S_ldS (pc := 1934) dL_law_1934 (fun x_219 => ?_)
      refine S_aload_n (pc := 1935) dL_law_1935 rfl ?_
      refine S_iload (pc := 1936) dL_law_1936 rfl ?_
      refine S_iconst (pc := 1938) (v := (nI 2)) dL_law_1938 kI_2 ?_
      refine S_iadd (pc := 1939) dL_law_1939 ?_
      refine S_ldS (pc := 1940) dL_law_1940 (fun x_220 => ?_)
      refine S_aload_n (pc := 1941) dL_law_1941 rfl ?_
      refine Y_SH (pc := 1942) (st := []) (kc' := (kc + 3)) (ks' := (ks + 18)) (ktL_compile r1 x_219 x_220 r3) w1100 w0 ⟨by decide, by decide⟩ (show Option.map _ (parseMethodDescriptor _) = some 4 by decide +kernel) w1099 w1098 (RO.mk rfl rfl (ble_le (show kc + 3 ≤ 601024 by omega)) (ble_le (show ks + 18 ≤ 7293034 by omega))) rfl rfl rfl dL_law_1942 ⟨rfl, rfl⟩ (fun x_221 => ?_)
      refine Z_istore (pc := 1945) (lv' := [some (.ref r0), some (.ref r1), some (.ref r2), some (.ref r3), some (.int v4), some (.int x_221), none]) dL_law_1945 rfl rfl rfl ?_
      refine S_aload_n (pc := 1947) dL_law_1947 rfl ?_
      refine S_aload_n (pc := 1948) dL_law_1948 rfl ?_
      refine S_iload (pc := 1949) dL_law_1949 rfl ?_
      refine S_iconst (pc := 1951) (v := (nI 1)) dL_law_1951 kI_1 ?_
      refine S_iadd (pc := 1952) dL_law_1952 ?_
      refine S_ldS (pc := 1953) dL_law_1953 (fun x_222 => ?_)
      refine S_aload_n (pc := 1954) dL_law_1954 rfl ?_
      refine S_iload (pc := 1955) dL_law_1955 rfl ?_
      refine S_iconst (pc := 1957) (v := (nI 2)) dL_law_1957 kI_2 ?_
      refine S_iadd (pc := 1958) dL_law_1958 ?_
      refine S_ldS (pc := 1959) dL_law_1959 (fun x_223 => ?_)
      refine Y_Vi (pc := 1960) (st := []) (kc' := (kc + 3)) (ks' := (ks + 18)) (ktX9_compile r2 x_222 x_223) mw_X9_compile mv_X9_compile w1605 (RO.mk rfl rfl (ble_le (show (kc + 3) + 0 ≤ 601024 by omega)) (ble_le (show (ks + 18) + 0 ≤ 7293034 by omega))) rfl rfl rfl dL_law_1960 ⟨rfl, rfl⟩ (fun x_224 => ?_)
      refine Z_istore (pc := 1963) (lv' := [some (.ref r0), some (.ref r1), some (.ref r2), some (.ref r3), some (.int v4), some (.int x_221), some (.int x_224)]) dL_law_1963 rfl rfl rfl ?_
      refine S_aload_n (pc := 1965) dL_law_1965 rfl ?_
      refine Y_Vi (pc := 1966) (st := []) (kc' := (kc + 3)) (ks' := (ks + 18)) (ktX9_thrown r2) mw_X9_thrown mv_X9_thrown w1407 (RO.mk rfl rfl (ble_le (show (kc + 3) + 0 ≤ 601024 by omega)) (ble_le (show (ks + 18) + 0 ≤ 7293034 by omega))) rfl rfl rfl dL_law_1966 ⟨rfl, rfl⟩ (fun x_225 => ?_)
      refine S_iload (pc := 1969) dL_law_1969 rfl ?_
      refine S_icmpeq (pc := 1971) (tgt := 1976) dL_law_1971 (by decide) ?_ ?_
      · refine S_iload (pc := 1976) dL_law_1976 rfl ?_
        refine S_ifne (pc := 1978) (tgt := 1993) dL_law_1978 (by decide) ?_ ?_
        · refine S_goto (pc := 1993) (tgt := 2382) dL_law_1993 (by decide) ?_
          exact (S_lv (lv0 := [some (.ref r0), some (.ref r1), some (.ref r2), some (.ref r3), some (.int v4), none, none]) (And.intro rfl (And.intro rfl (And.intro rfl (And.intro rfl (And.intro rfl trivial))))) (sL_law_2382 (h23 (kc + 3) (ks + 18) (by omega) (by omega)) r0 r1 r2 r3 v4))
        · refine S_aload_n (pc := 1981) dL_law_1981 rfl ?_
          refine S_iconst (pc := 1982) (v := (nI 0)) dL_law_1982 kI_0 ?_
          refine S_ldJ (pc := 1983) dL_law_1983 (fun y_226 => ?_)
          refine S_iload (pc := 1984) dL_law_1984 rfl ?_
          refine S_i2l (pc := 1986) dL_law_1986 ?_
          refine S_lcmp (pc := 1987) dL_law_1987 ?_
          refine S_ifeq (pc := 1988) (tgt := 1993) dL_law_1988 (by decide) ?_ ?_
          · refine S_goto (pc := 1993) (tgt := 2382) dL_law_1993 (by decide) ?_
            exact (S_lv (lv0 := [some (.ref r0), some (.ref r1), some (.ref r2), some (.ref r3), some (.int v4), none, none]) (And.intro rfl (And.intro rfl (And.intro rfl (And.intro rfl (And.intro rfl trivial))))) (sL_law_2382 (h23 (kc + 3) (ks + 18) (by omega) (by omega)) r0 r1 r2 r3 v4))
          · refine S_iconst (pc := 1991) (v := (nI 0)) dL_law_1991 kI_0 ?_
            exact S_zret (pc := 1992) ⟨ble_le (show _ ≤ 601024 by omega), ble_le (show _ ≤ 7293034 by omega)⟩ rfl rfl dL_law_1992
      · refine S_iconst (pc := 1974) (v := (nI 0)) dL_law_1974 kI_0 ?_
        exact S_zret (pc := 1975) ⟨ble_le (show _ ≤ 601024 by omega), ble_le (show _ ≤ 7293034 by omega)⟩ rfl rfl dL_law_1975
    refine S_case (x := (x_13 &&& (nI 31))) (v := (nI 24)) (fun n24 => ?_) (fun n24 => ?_)
    · refine S_tsI (pc := 40) (tgt := 1996) n24 dL_law_40 (by decide) rfl (by decide) ?_
      refine S_aload_n (pc := 1996) dL_law_1996 rfl ?_
      refine S_aload_n (pc := 1997) dL_law_1997 rfl ?_
      refine S_iload (pc := 1998) dL_law_1998 rfl ?_
      refine S_iconst (pc := 2000) (v := (nI 1)) dL_law_2000 kI_1 ?_
      refine S_iadd (pc := 2001) dL_law_2001 ?_
      refine S_ldS (pc := 2002) dL_law_2002 (fun x_227 => ?_)
      refine S_aload_n (pc := 2003) dL_law_2003 rfl ?_
      refine S_iload (pc := 2004) dL_law_2004 rfl ?_
      refine S_iconst (pc := 2006) (v := (nI 2)) dL_law_2006 kI_2 ?_
      refine S_iadd (pc := 2007) dL_law_2007 ?_
      refine S_ldS (pc := 2008) dL_law_2008 (fun x_228 => ?_)
      refine S_aload_n (pc := 2009) dL_law_2009 rfl ?_
      refine Y_SH (pc := 2010) (st := []) (kc' := (kc + 3)) (ks' := (ks + 18)) (ktL_link r1 x_227 x_228 r3) w1107 w0 ⟨by decide, by decide⟩ (show Option.map _ (parseMethodDescriptor _) = some 4 by decide +kernel) w1106 w1105 (RO.mk rfl rfl (ble_le (show kc + 3 ≤ 601024 by omega)) (ble_le (show ks + 18 ≤ 7293034 by omega))) rfl rfl rfl dL_law_2010 ⟨rfl, rfl⟩ (fun x_229 => ?_)
      refine Z_istore (pc := 2013) (lv' := [some (.ref r0), some (.ref r1), some (.ref r2), some (.ref r3), some (.int v4), some (.int x_229), none]) dL_law_2013 rfl rfl rfl ?_
      refine S_aload_n (pc := 2015) dL_law_2015 rfl ?_
      refine S_aload_n (pc := 2016) dL_law_2016 rfl ?_
      refine S_iload (pc := 2017) dL_law_2017 rfl ?_
      refine S_iconst (pc := 2019) (v := (nI 1)) dL_law_2019 kI_1 ?_
      refine S_iadd (pc := 2020) dL_law_2020 ?_
      refine S_ldS (pc := 2021) dL_law_2021 (fun x_230 => ?_)
      refine S_aload_n (pc := 2022) dL_law_2022 rfl ?_
      refine S_iload (pc := 2023) dL_law_2023 rfl ?_
      refine S_iconst (pc := 2025) (v := (nI 2)) dL_law_2025 kI_2 ?_
      refine S_iadd (pc := 2026) dL_law_2026 ?_
      refine S_ldS (pc := 2027) dL_law_2027 (fun x_231 => ?_)
      refine Y_Vi (pc := 2028) (st := []) (kc' := (kc + 3)) (ks' := (ks + 18)) (ktX9_link r2 x_230 x_231) mw_X9_link mv_X9_link w1613 (RO.mk rfl rfl (ble_le (show (kc + 3) + 0 ≤ 601024 by omega)) (ble_le (show (ks + 18) + 0 ≤ 7293034 by omega))) rfl rfl rfl dL_law_2028 ⟨rfl, rfl⟩ (fun x_232 => ?_)
      refine Z_istore (pc := 2031) (lv' := [some (.ref r0), some (.ref r1), some (.ref r2), some (.ref r3), some (.int v4), some (.int x_229), some (.int x_232)]) dL_law_2031 rfl rfl rfl ?_
      refine S_aload_n (pc := 2033) dL_law_2033 rfl ?_
      refine Y_Vi (pc := 2034) (st := []) (kc' := (kc + 3)) (ks' := (ks + 18)) (ktX9_thrown r2) mw_X9_thrown mv_X9_thrown w1407 (RO.mk rfl rfl (ble_le (show (kc + 3) + 0 ≤ 601024 by omega)) (ble_le (show (ks + 18) + 0 ≤ 7293034 by omega))) rfl rfl rfl dL_law_2034 ⟨rfl, rfl⟩ (fun x_233 => ?_)
      refine S_iload (pc := 2037) dL_law_2037 rfl ?_
      refine S_icmpeq (pc := 2039) (tgt := 2044) dL_law_2039 (by decide) ?_ ?_
      · refine S_iload (pc := 2044) dL_law_2044 rfl ?_
        refine S_ifne (pc := 2046) (tgt := 2061) dL_law_2046 (by decide) ?_ ?_
        · refine S_goto (pc := 2061) (tgt := 2382) dL_law_2061 (by decide) ?_
          exact (S_lv (lv0 := [some (.ref r0), some (.ref r1), some (.ref r2), some (.ref r3), some (.int v4), none, none]) (And.intro rfl (And.intro rfl (And.intro rfl (And.intro rfl (And.intro rfl trivial))))) (sL_law_2382 (h23 (kc + 3) (ks + 18) (by omega) (by omega)) r0 r1 r2 r3 v4))
        · refine S_aload_n (pc := 2049) dL_law_2049 rfl ?_
          refine S_iconst (pc := 2050) (v := (nI 0)) dL_law_2050 kI_0 ?_
          refine S_ldJ (pc := 2051) dL_law_2051 (fun y_234 => ?_)
          refine S_iload (pc := 2052) dL_law_2052 rfl ?_
          refine S_i2l (pc := 2054) dL_law_2054 ?_
          refine S_lcmp (pc := 2055) dL_law_2055 ?_
          refine S_ifeq (pc := 2056) (tgt := 2061) dL_law_2056 (by decide) ?_ ?_
          · refine S_goto (pc := 2061) (tgt := 2382) dL_law_2061 (by decide) ?_
            exact (S_lv (lv0 := [some (.ref r0), some (.ref r1), some (.ref r2), some (.ref r3), some (.int v4), none, none]) (And.intro rfl (And.intro rfl (And.intro rfl (And.intro rfl (And.intro rfl trivial))))) (sL_law_2382 (h23 (kc + 3) (ks + 18) (by omega) (by omega)) r0 r1 r2 r3 v4))
          · refine S_iconst (pc := 2059) (v := (nI 0)) dL_law_2059 kI_0 ?_
            exact S_zret (pc := 2060) ⟨ble_le (show _ ≤ 601024 by omega), ble_le (show _ ≤ 7293034 by omega)⟩ rfl rfl dL_law_2060
      · refine S_iconst (pc := 2042) (v := (nI 0)) dL_law_2042 kI_0 ?_
        exact S_zret (pc := 2043) ⟨ble_le (show _ ≤ 601024 by omega), ble_le (show _ ≤ 7293034 by omega)⟩ rfl rfl dL_law_2043
    refine S_case (x := (x_13 &&& (nI 31))) (v := (nI 25)) (fun n25 => ?_) (fun n25 => ?_)
    · refine S_tsI (pc := 40) (tgt := 2064) n25 dL_law_40 (by decide) rfl (by decide) ?_
      refine S_aload_n (pc := 2064) dL_law_2064 rfl ?_
      refine S_aload_n (pc := 2065) dL_law_2065 rfl ?_
      refine S_iload (pc := 2066) dL_law_2066 rfl ?_
      refine S_iconst (pc := 2068) (v := (nI 1)) dL_law_2068 kI_1 ?_
      refine S_iadd (pc := 2069) dL_law_2069 ?_
      refine S_ldS (pc := 2070) dL_law_2070 (fun x_235 => ?_)
      refine S_aload_n (pc := 2071) dL_law_2071 rfl ?_
      refine S_iload (pc := 2072) dL_law_2072 rfl ?_
      refine S_iconst (pc := 2074) (v := (nI 2)) dL_law_2074 kI_2 ?_
      refine S_iadd (pc := 2075) dL_law_2075 ?_
      refine S_ldS (pc := 2076) dL_law_2076 (fun x_236 => ?_)
      refine S_aload_n (pc := 2077) dL_law_2077 rfl ?_
      refine Y_SH (pc := 2078) (st := []) (kc' := (kc + 3)) (ks' := (ks + 18)) (ktL_target r1 x_235 x_236 r3) w1114 w0 ⟨by decide, by decide⟩ (show Option.map _ (parseMethodDescriptor _) = some 4 by decide +kernel) w1113 w1112 (RO.mk rfl rfl (ble_le (show kc + 3 ≤ 601024 by omega)) (ble_le (show ks + 18 ≤ 7293034 by omega))) rfl rfl rfl dL_law_2078 ⟨rfl, rfl⟩ (fun x_237 => ?_)
      refine Z_istore (pc := 2081) (lv' := [some (.ref r0), some (.ref r1), some (.ref r2), some (.ref r3), some (.int v4), some (.int x_237), none]) dL_law_2081 rfl rfl rfl ?_
      refine S_aload_n (pc := 2083) dL_law_2083 rfl ?_
      refine S_aload_n (pc := 2084) dL_law_2084 rfl ?_
      refine S_iload (pc := 2085) dL_law_2085 rfl ?_
      refine S_iconst (pc := 2087) (v := (nI 1)) dL_law_2087 kI_1 ?_
      refine S_iadd (pc := 2088) dL_law_2088 ?_
      refine S_ldS (pc := 2089) dL_law_2089 (fun x_238 => ?_)
      refine S_aload_n (pc := 2090) dL_law_2090 rfl ?_
      refine S_iload (pc := 2091) dL_law_2091 rfl ?_
      refine S_iconst (pc := 2093) (v := (nI 2)) dL_law_2093 kI_2 ?_
      refine S_iadd (pc := 2094) dL_law_2094 ?_
      refine S_ldS (pc := 2095) dL_law_2095 (fun x_239 => ?_)
      refine Y_Vi (pc := 2096) (st := []) (kc' := (kc + 3)) (ks' := (ks + 18)) (ktX9_target r2 x_238 x_239) mw_X9_target mv_X9_target w1633 (RO.mk rfl rfl (ble_le (show (kc + 3) + 0 ≤ 601024 by omega)) (ble_le (show (ks + 18) + 0 ≤ 7293034 by omega))) rfl rfl rfl dL_law_2096 ⟨rfl, rfl⟩ (fun x_240 => ?_)
      refine Z_istore (pc := 2099) (lv' := [some (.ref r0), some (.ref r1), some (.ref r2), some (.ref r3), some (.int v4), some (.int x_237), some (.int x_240)]) dL_law_2099 rfl rfl rfl ?_
      refine S_aload_n (pc := 2101) dL_law_2101 rfl ?_
      refine Y_Vi (pc := 2102) (st := []) (kc' := (kc + 3)) (ks' := (ks + 18)) (ktX9_thrown r2) mw_X9_thrown mv_X9_thrown w1407 (RO.mk rfl rfl (ble_le (show (kc + 3) + 0 ≤ 601024 by omega)) (ble_le (show (ks + 18) + 0 ≤ 7293034 by omega))) rfl rfl rfl dL_law_2102 ⟨rfl, rfl⟩ (fun x_241 => ?_)
      refine S_iload (pc := 2105) dL_law_2105 rfl ?_
      refine S_icmpeq (pc := 2107) (tgt := 2112) dL_law_2107 (by decide) ?_ ?_
      · refine S_iload (pc := 2112) dL_law_2112 rfl ?_
        refine S_ifne (pc := 2114) (tgt := 2129) dL_law_2114 (by decide) ?_ ?_
        · refine S_goto (pc := 2129) (tgt := 2382) dL_law_2129 (by decide) ?_
          exact (S_lv (lv0 := [some (.ref r0), some (.ref r1), some (.ref r2), some (.ref r3), some (.int v4), none, none]) (And.intro rfl (And.intro rfl (And.intro rfl (And.intro rfl (And.intro rfl trivial))))) (sL_law_2382 (h23 (kc + 3) (ks + 18) (by omega) (by omega)) r0 r1 r2 r3 v4))
        · refine S_aload_n (pc := 2117) dL_law_2117 rfl ?_
          refine S_iconst (pc := 2118) (v := (nI 0)) dL_law_2118 kI_0 ?_
          refine S_ldJ (pc := 2119) dL_law_2119 (fun y_242 => ?_)
          refine S_iload (pc := 2120) dL_law_2120 rfl ?_
          refine S_i2l (pc := 2122) dL_law_2122 ?_
          refine S_lcmp (pc := 2123) dL_law_2123 ?_
          refine S_ifeq (pc := 2124) (tgt := 2129) dL_law_2124 (by decide) ?_ ?_
          · refine S_goto (pc := 2129) (tgt := 2382) dL_law_2129 (by decide) ?_
            exact (S_lv (lv0 := [some (.ref r0), some (.ref r1), some (.ref r2), some (.ref r3), some (.int v4), none, none]) (And.intro rfl (And.intro rfl (And.intro rfl (And.intro rfl (And.intro rfl trivial))))) (sL_law_2382 (h23 (kc + 3) (ks + 18) (by omega) (by omega)) r0 r1 r2 r3 v4))
          · refine S_iconst (pc := 2127) (v := (nI 0)) dL_law_2127 kI_0 ?_
            exact S_zret (pc := 2128) ⟨ble_le (show _ ≤ 601024 by omega), ble_le (show _ ≤ 7293034 by omega)⟩ rfl rfl dL_law_2128
      · refine S_iconst (pc := 2110) (v := (nI 0)) dL_law_2110 kI_0 ?_
        exact S_zret (pc := 2111) ⟨ble_le (show _ ≤ 601024 by omega), ble_le (show _ ≤ 7293034 by omega)⟩ rfl rfl dL_law_2111
    refine S_case (x := (x_13 &&& (nI 31))) (v := (nI 26)) (fun n26 => ?_) (fun n26 => ?_)
    · refine S_tsI (pc := 40) (tgt := 2132) n26 dL_law_40 (by decide) rfl (by decide) ?_
      refine S_aload_n (pc := 2132) dL_law_2132 rfl ?_
      refine S_aload_n (pc := 2133) dL_law_2133 rfl ?_
      refine S_iload (pc := 2134) dL_law_2134 rfl ?_
      refine S_iconst (pc := 2136) (v := (nI 1)) dL_law_2136 kI_1 ?_
      refine S_iadd (pc := 2137) dL_law_2137 ?_
      refine S_ldS (pc := 2138) dL_law_2138 (fun x_243 => ?_)
      refine S_aload_n (pc := 2139) dL_law_2139 rfl ?_
      refine Y_SH (pc := 2140) (st := []) (kc' := (kc + 3)) (ks' := (ks + 18)) (ktL_verdict r1 x_243 r3) w1121 w0 ⟨by decide, by decide⟩ (show Option.map _ (parseMethodDescriptor _) = some 3 by decide +kernel) w1120 w1119 (RO.mk rfl rfl (ble_le (show kc + 3 ≤ 601024 by omega)) (ble_le (show ks + 18 ≤ 7293034 by omega))) rfl rfl rfl dL_law_2140 ⟨rfl, rfl⟩ (fun x_244 => ?_)
      refine Z_istore (pc := 2143) (lv' := [some (.ref r0), some (.ref r1), some (.ref r2), some (.ref r3), some (.int v4), some (.int x_244), none]) dL_law_2143 rfl rfl rfl ?_
      refine S_aload_n (pc := 2145) dL_law_2145 rfl ?_
      refine S_aload_n (pc := 2146) dL_law_2146 rfl ?_
      refine S_iload (pc := 2147) dL_law_2147 rfl ?_
      refine S_iconst (pc := 2149) (v := (nI 1)) dL_law_2149 kI_1 ?_
      refine S_iadd (pc := 2150) dL_law_2150 ?_
      refine S_ldS (pc := 2151) dL_law_2151 (fun x_245 => ?_)
      refine Y_Vi (pc := 2152) (st := []) (kc' := (kc + 3)) (ks' := (ks + 18)) (ktX9_verdict r2 x_245) mw_X9_verdict mv_X9_verdict w1637 (RO.mk rfl rfl (ble_le (show (kc + 3) + 0 ≤ 601024 by omega)) (ble_le (show (ks + 18) + 0 ≤ 7293034 by omega))) rfl rfl rfl dL_law_2152 ⟨rfl, rfl⟩ (fun x_246 => ?_)
      refine Z_istore (pc := 2155) (lv' := [some (.ref r0), some (.ref r1), some (.ref r2), some (.ref r3), some (.int v4), some (.int x_244), some (.int x_246)]) dL_law_2155 rfl rfl rfl ?_
      refine S_aload_n (pc := 2157) dL_law_2157 rfl ?_
      refine Y_Vi (pc := 2158) (st := []) (kc' := (kc + 3)) (ks' := (ks + 18)) (ktX9_thrown r2) mw_X9_thrown mv_X9_thrown w1407 (RO.mk rfl rfl (ble_le (show (kc + 3) + 0 ≤ 601024 by omega)) (ble_le (show (ks + 18) + 0 ≤ 7293034 by omega))) rfl rfl rfl dL_law_2158 ⟨rfl, rfl⟩ (fun x_247 => ?_)
      refine S_iload (pc := 2161) dL_law_2161 rfl ?_
      refine S_icmpeq (pc := 2163) (tgt := 2168) dL_law_2163 (by decide) ?_ ?_
      · refine S_iload (pc := 2168) dL_law_2168 rfl ?_
        refine S_ifne (pc := 2170) (tgt := 2185) dL_law_2170 (by decide) ?_ ?_
        · refine S_goto (pc := 2185) (tgt := 2382) dL_law_2185 (by decide) ?_
          exact (S_lv (lv0 := [some (.ref r0), some (.ref r1), some (.ref r2), some (.ref r3), some (.int v4), none, none]) (And.intro rfl (And.intro rfl (And.intro rfl (And.intro rfl (And.intro rfl trivial))))) (sL_law_2382 (h23 (kc + 3) (ks + 18) (by omega) (by omega)) r0 r1 r2 r3 v4))
        · refine S_aload_n (pc := 2173) dL_law_2173 rfl ?_
          refine S_iconst (pc := 2174) (v := (nI 0)) dL_law_2174 kI_0 ?_
          refine S_ldJ (pc := 2175) dL_law_2175 (fun y_248 => ?_)
          refine S_iload (pc := 2176) dL_law_2176 rfl ?_
          refine S_i2l (pc := 2178) dL_law_2178 ?_
          refine S_lcmp (pc := 2179) dL_law_2179 ?_
          refine S_ifeq (pc := 2180) (tgt := 2185) dL_law_2180 (by decide) ?_ ?_
          · refine S_goto (pc := 2185) (tgt := 2382) dL_law_2185 (by decide) ?_
            exact (S_lv (lv0 := [some (.ref r0), some (.ref r1), some (.ref r2), some (.ref r3), some (.int v4), none, none]) (And.intro rfl (And.intro rfl (And.intro rfl (And.intro rfl (And.intro rfl trivial))))) (sL_law_2382 (h23 (kc + 3) (ks + 18) (by omega) (by omega)) r0 r1 r2 r3 v4))
          · refine S_iconst (pc := 2183) (v := (nI 0)) dL_law_2183 kI_0 ?_
            exact S_zret (pc := 2184) ⟨ble_le (show _ ≤ 601024 by omega), ble_le (show _ ≤ 7293034 by omega)⟩ rfl rfl dL_law_2184
      · refine S_iconst (pc := 2166) (v := (nI 0)) dL_law_2166 kI_0 ?_
        exact S_zret (pc := 2167) ⟨ble_le (show _ ≤ 601024 by omega), ble_le (show _ ≤ 7293034 by omega)⟩ rfl rfl dL_law_2167
    refine S_case (x := (x_13 &&& (nI 31))) (v := (nI 27)) (fun n27 => ?_) (fun n27 => ?_)
    · refine S_tsI (pc := 40) (tgt := 2188) n27 dL_law_40 (by decide) rfl (by decide) ?_
      refine S_aload_n (pc := 2188) dL_law_2188 rfl ?_
      refine S_aload_n (pc := 2189) dL_law_2189 rfl ?_
      refine S_iload (pc := 2190) dL_law_2190 rfl ?_
      refine S_iconst (pc := 2192) (v := (nI 1)) dL_law_2192 kI_1 ?_
      refine S_iadd (pc := 2193) dL_law_2193 ?_
      refine S_ldS (pc := 2194) dL_law_2194 (fun x_249 => ?_)
      refine S_aload_n (pc := 2195) dL_law_2195 rfl ?_
      refine Y_SH (pc := 2196) (st := []) (kc' := (kc + 3)) (ks' := (ks + 18)) (ktL_count r1 x_249 r3) w1128 w0 ⟨by decide, by decide⟩ (show Option.map _ (parseMethodDescriptor _) = some 3 by decide +kernel) w1127 w1126 (RO.mk rfl rfl (ble_le (show kc + 3 ≤ 601024 by omega)) (ble_le (show ks + 18 ≤ 7293034 by omega))) rfl rfl rfl dL_law_2196 ⟨rfl, rfl⟩ (fun x_250 => ?_)
      refine Z_istore (pc := 2199) (lv' := [some (.ref r0), some (.ref r1), some (.ref r2), some (.ref r3), some (.int v4), some (.int x_250), none]) dL_law_2199 rfl rfl rfl ?_
      refine S_aload_n (pc := 2201) dL_law_2201 rfl ?_
      refine S_aload_n (pc := 2202) dL_law_2202 rfl ?_
      refine S_iload (pc := 2203) dL_law_2203 rfl ?_
      refine S_iconst (pc := 2205) (v := (nI 1)) dL_law_2205 kI_1 ?_
      refine S_iadd (pc := 2206) dL_law_2206 ?_
      refine S_ldS (pc := 2207) dL_law_2207 (fun x_251 => ?_)
      refine Y_Vi (pc := 2208) (st := []) (kc' := (kc + 3)) (ks' := (ks + 18)) (ktX9_count r2 x_251) mw_X9_count mv_X9_count w1649 (RO.mk rfl rfl (ble_le (show (kc + 3) + 0 ≤ 601024 by omega)) (ble_le (show (ks + 18) + 0 ≤ 7293034 by omega))) rfl rfl rfl dL_law_2208 ⟨rfl, rfl⟩ (fun x_252 => ?_)
      refine Z_istore (pc := 2211) (lv' := [some (.ref r0), some (.ref r1), some (.ref r2), some (.ref r3), some (.int v4), some (.int x_250), some (.int x_252)]) dL_law_2211 rfl rfl rfl ?_
      refine S_aload_n (pc := 2213) dL_law_2213 rfl ?_
      refine Y_Vi (pc := 2214) (st := []) (kc' := (kc + 3)) (ks' := (ks + 18)) (ktX9_thrown r2) mw_X9_thrown mv_X9_thrown w1407 (RO.mk rfl rfl (ble_le (show (kc + 3) + 0 ≤ 601024 by omega)) (ble_le (show (ks + 18) + 0 ≤ 7293034 by omega))) rfl rfl rfl dL_law_2214 ⟨rfl, rfl⟩ (fun x_253 => ?_)
      refine S_iload (pc := 2217) dL_law_2217 rfl ?_
      refine S_icmpeq (pc := 2219) (tgt := 2224) dL_law_2219 (by decide) ?_ ?_
      · refine S_iload (pc := 2224) dL_law_2224 rfl ?_
        refine S_ifne (pc := 2226) (tgt := 2241) dL_law_2226 (by decide) ?_ ?_
        · refine S_goto (pc := 2241) (tgt := 2382) dL_law_2241 (by decide) ?_
          exact (S_lv (lv0 := [some (.ref r0), some (.ref r1), some (.ref r2), some (.ref r3), some (.int v4), none, none]) (And.intro rfl (And.intro rfl (And.intro rfl (And.intro rfl (And.intro rfl trivial))))) (sL_law_2382 (h23 (kc + 3) (ks + 18) (by omega) (by omega)) r0 r1 r2 r3 v4))
        · refine S_aload_n (pc := 2229) dL_law_2229 rfl ?_
          refine S_iconst (pc := 2230) (v := (nI 0)) dL_law_2230 kI_0 ?_
          refine S_ldJ (pc := 2231) dL_law_2231 (fun y_254 => ?_)
          refine S_iload (pc := 2232) dL_law_2232 rfl ?_
          refine S_i2l (pc := 2234) dL_law_2234 ?_
          refine S_lcmp (pc := 2235) dL_law_2235 ?_
          refine S_ifeq (pc := 2236) (tgt := 2241) dL_law_2236 (by decide) ?_ ?_
          · refine S_goto (pc := 2241) (tgt := 2382) dL_law_2241 (by decide) ?_
            exact (S_lv (lv0 := [some (.ref r0), some (.ref r1), some (.ref r2), some (.ref r3), some (.int v4), none, none]) (And.intro rfl (And.intro rfl (And.intro rfl (And.intro rfl (And.intro rfl trivial))))) (sL_law_2382 (h23 (kc + 3) (ks + 18) (by omega) (by omega)) r0 r1 r2 r3 v4))
          · refine S_iconst (pc := 2239) (v := (nI 0)) dL_law_2239 kI_0 ?_
            exact S_zret (pc := 2240) ⟨ble_le (show _ ≤ 601024 by omega), ble_le (show _ ≤ 7293034 by omega)⟩ rfl rfl dL_law_2240
      · refine S_iconst (pc := 2222) (v := (nI 0)) dL_law_2222 kI_0 ?_
        exact S_zret (pc := 2223) ⟨ble_le (show _ ≤ 601024 by omega), ble_le (show _ ≤ 7293034 by omega)⟩ rfl rfl dL_law_2223
    refine S_case (x := (x_13 &&& (nI 31))) (v := (nI 28)) (fun n28 => ?_) (fun n28 => ?_)
    · refine S_tsI (pc := 40) (tgt := 2244) n28 dL_law_40 (by decide) rfl (by decide) ?_
      refine S_aload_n (pc := 2244) dL_law_2244 rfl ?_
      refine S_aload_n (pc := 2245) dL_law_2245 rfl ?_
      refine S_iload (pc := 2246) dL_law_2246 rfl ?_
      refine S_iconst (pc := 2248) (v := (nI 1)) dL_law_2248 kI_1 ?_
      refine S_iadd (pc := 2249) dL_law_2249 ?_
      refine S_ldS (pc := 2250) dL_law_2250 (fun x_255 => ?_)
      refine S_aload_n (pc := 2251) dL_law_2251 rfl ?_
      refine S_iload (pc := 2252) dL_law_2252 rfl ?_
      refine S_iconst (pc := 2254) (v := (nI 2)) dL_law_2254 kI_2 ?_
      refine S_iadd (pc := 2255) dL_law_2255 ?_
      refine S_ldS (pc := 2256) dL_law_2256 (fun x_256 => ?_)
      refine S_aload_n (pc := 2257) dL_law_2257 rfl ?_
      refine S_iload (pc := 2258) dL_law_2258 rfl ?_
      refine S_iconst (pc := 2260) (v := (nI 3)) dL_law_2260 kI_3 ?_
      refine S_iadd (pc := 2261) dL_law_2261 ?_
      refine S_ldS (pc := 2262) dL_law_2262 (fun x_257 => ?_)
      refine S_aload_n (pc := 2263) dL_law_2263 rfl ?_
      refine Y_SH (pc := 2264) (st := []) (kc' := (kc + 3)) (ks' := (ks + 18)) (ktL_sample r1 x_255 x_256 x_257 r3) w1136 w0 ⟨by decide, by decide⟩ (show Option.map _ (parseMethodDescriptor _) = some 5 by decide +kernel) w1135 w1134 (RO.mk rfl rfl (ble_le (show kc + 3 ≤ 601024 by omega)) (ble_le (show ks + 18 ≤ 7293034 by omega))) rfl rfl rfl dL_law_2264 ⟨rfl, rfl⟩ (fun x_258 => ?_)
      refine Z_istore (pc := 2267) (lv' := [some (.ref r0), some (.ref r1), some (.ref r2), some (.ref r3), some (.int v4), some (.int x_258), none]) dL_law_2267 rfl rfl rfl ?_
      refine S_aload_n (pc := 2269) dL_law_2269 rfl ?_
      refine S_aload_n (pc := 2270) dL_law_2270 rfl ?_
      refine S_iload (pc := 2271) dL_law_2271 rfl ?_
      refine S_iconst (pc := 2273) (v := (nI 1)) dL_law_2273 kI_1 ?_
      refine S_iadd (pc := 2274) dL_law_2274 ?_
      refine S_ldS (pc := 2275) dL_law_2275 (fun x_259 => ?_)
      refine S_aload_n (pc := 2276) dL_law_2276 rfl ?_
      refine S_iload (pc := 2277) dL_law_2277 rfl ?_
      refine S_iconst (pc := 2279) (v := (nI 2)) dL_law_2279 kI_2 ?_
      refine S_iadd (pc := 2280) dL_law_2280 ?_
      refine S_ldS (pc := 2281) dL_law_2281 (fun x_260 => ?_)
      refine S_aload_n (pc := 2282) dL_law_2282 rfl ?_
      refine S_iload (pc := 2283) dL_law_2283 rfl ?_
      refine S_iconst (pc := 2285) (v := (nI 3)) dL_law_2285 kI_3 ?_
      refine S_iadd (pc := 2286) dL_law_2286 ?_
      refine S_ldS (pc := 2287) dL_law_2287 (fun x_261 => ?_)
      refine Y_Vi (pc := 2288) (st := []) (kc' := (kc + 3)) (ks' := (ks + 18)) (ktX9_sample r2 x_259 x_260 x_261) mw_X9_sample mv_X9_sample w1653 (RO.mk rfl rfl (ble_le (show (kc + 3) + 0 ≤ 601024 by omega)) (ble_le (show (ks + 18) + 0 ≤ 7293034 by omega))) rfl rfl rfl dL_law_2288 ⟨rfl, rfl⟩ (fun x_262 => ?_)
      refine Z_istore (pc := 2291) (lv' := [some (.ref r0), some (.ref r1), some (.ref r2), some (.ref r3), some (.int v4), some (.int x_258), some (.int x_262)]) dL_law_2291 rfl rfl rfl ?_
      refine S_aload_n (pc := 2293) dL_law_2293 rfl ?_
      refine Y_Vi (pc := 2294) (st := []) (kc' := (kc + 3)) (ks' := (ks + 18)) (ktX9_thrown r2) mw_X9_thrown mv_X9_thrown w1407 (RO.mk rfl rfl (ble_le (show (kc + 3) + 0 ≤ 601024 by omega)) (ble_le (show (ks + 18) + 0 ≤ 7293034 by omega))) rfl rfl rfl dL_law_2294 ⟨rfl, rfl⟩ (fun x_263 => ?_)
      refine S_iload (pc := 2297) dL_law_2297 rfl ?_
      refine S_icmpeq (pc := 2299) (tgt := 2304) dL_law_2299 (by decide) ?_ ?_
      · refine S_iload (pc := 2304) dL_law_2304 rfl ?_
        refine S_ifne (pc := 2306) (tgt := 2321) dL_law_2306 (by decide) ?_ ?_
        · refine S_goto (pc := 2321) (tgt := 2382) dL_law_2321 (by decide) ?_
          exact (S_lv (lv0 := [some (.ref r0), some (.ref r1), some (.ref r2), some (.ref r3), some (.int v4), none, none]) (And.intro rfl (And.intro rfl (And.intro rfl (And.intro rfl (And.intro rfl trivial))))) (sL_law_2382 (h23 (kc + 3) (ks + 18) (by omega) (by omega)) r0 r1 r2 r3 v4))
        · refine S_aload_n (pc := 2309) dL_law_2309 rfl ?_
          refine S_iconst (pc := 2310) (v := (nI 0)) dL_law_2310 kI_0 ?_
          refine S_ldJ (pc := 2311) dL_law_2311 (fun y_264 => ?_)
          refine S_iload (pc := 2312) dL_law_2312 rfl ?_
          refine S_i2l (pc := 2314) dL_law_2314 ?_
          refine S_lcmp (pc := 2315) dL_law_2315 ?_
          refine S_ifeq (pc := 2316) (tgt := 2321) dL_law_2316 (by decide) ?_ ?_
          · refine S_goto (pc := 2321) (tgt := 2382) dL_law_2321 (by decide) ?_
            exact (S_lv (lv0 := [some (.ref r0), some (.ref r1), some (.ref r2), some (.ref r3), some (.int v4), none, none]) (And.intro rfl (And.intro rfl (And.intro rfl (And.intro rfl (And.intro rfl trivial))))) (sL_law_2382 (h23 (kc + 3) (ks + 18) (by omega) (by omega)) r0 r1 r2 r3 v4))
          · refine S_iconst (pc := 2319) (v := (nI 0)) dL_law_2319 kI_0 ?_
            exact S_zret (pc := 2320) ⟨ble_le (show _ ≤ 601024 by omega), ble_le (show _ ≤ 7293034 by omega)⟩ rfl rfl dL_law_2320
      · refine S_iconst (pc := 2302) (v := (nI 0)) dL_law_2302 kI_0 ?_
        exact S_zret (pc := 2303) ⟨ble_le (show _ ≤ 601024 by omega), ble_le (show _ ≤ 7293034 by omega)⟩ rfl rfl dL_law_2303
    refine S_case (x := (x_13 &&& (nI 31))) (v := (nI 29)) (fun n29 => ?_) (fun n29 => ?_)
    · refine S_tsI (pc := 40) (tgt := 2324) n29 dL_law_40 (by decide) rfl (by decide) ?_
      refine S_aload_n (pc := 2324) dL_law_2324 rfl ?_
      refine S_aload_n (pc := 2325) dL_law_2325 rfl ?_
      refine Y_SH (pc := 2326) (st := []) (kc' := (kc + 3)) (ks' := (ks + 18)) (ktL_undo r1 r3) w1163 w0 ⟨by decide, by decide⟩ (show Option.map _ (parseMethodDescriptor _) = some 2 by decide +kernel) w1162 w1161 (RO.mk rfl rfl (ble_le (show kc + 3 ≤ 601024 by omega)) (ble_le (show ks + 18 ≤ 7293034 by omega))) rfl rfl rfl dL_law_2326 ⟨rfl, rfl⟩ (fun x_265 => ?_)
      refine Z_istore (pc := 2329) (lv' := [some (.ref r0), some (.ref r1), some (.ref r2), some (.ref r3), some (.int v4), some (.int x_265), none]) dL_law_2329 rfl rfl rfl ?_
      refine S_aload_n (pc := 2331) dL_law_2331 rfl ?_
      refine Y_Vi (pc := 2332) (st := []) (kc' := (kc + 3)) (ks' := (ks + 18)) (ktX9_undo r2) mw_X9_undo mv_X9_undo w1411 (RO.mk rfl rfl (ble_le (show (kc + 3) + 0 ≤ 601024 by omega)) (ble_le (show (ks + 18) + 0 ≤ 7293034 by omega))) rfl rfl rfl dL_law_2332 ⟨rfl, rfl⟩ (fun x_266 => ?_)
      refine Z_istore (pc := 2335) (lv' := [some (.ref r0), some (.ref r1), some (.ref r2), some (.ref r3), some (.int v4), some (.int x_265), some (.int x_266)]) dL_law_2335 rfl rfl rfl ?_
      refine S_aload_n (pc := 2337) dL_law_2337 rfl ?_
      refine Y_Vi (pc := 2338) (st := []) (kc' := (kc + 3)) (ks' := (ks + 18)) (ktX9_thrown r2) mw_X9_thrown mv_X9_thrown w1407 (RO.mk rfl rfl (ble_le (show (kc + 3) + 0 ≤ 601024 by omega)) (ble_le (show (ks + 18) + 0 ≤ 7293034 by omega))) rfl rfl rfl dL_law_2338 ⟨rfl, rfl⟩ (fun x_267 => ?_)
      refine S_iload (pc := 2341) dL_law_2341 rfl ?_
      refine S_icmpeq (pc := 2343) (tgt := 2348) dL_law_2343 (by decide) ?_ ?_
      · refine S_iload (pc := 2348) dL_law_2348 rfl ?_
        refine S_ifne (pc := 2350) (tgt := 2365) dL_law_2350 (by decide) ?_ ?_
        · refine S_goto (pc := 2365) (tgt := 2382) dL_law_2365 (by decide) ?_
          exact (S_lv (lv0 := [some (.ref r0), some (.ref r1), some (.ref r2), some (.ref r3), some (.int v4), none, none]) (And.intro rfl (And.intro rfl (And.intro rfl (And.intro rfl (And.intro rfl trivial))))) (sL_law_2382 (h23 (kc + 3) (ks + 18) (by omega) (by omega)) r0 r1 r2 r3 v4))
        · refine S_aload_n (pc := 2353) dL_law_2353 rfl ?_
          refine S_iconst (pc := 2354) (v := (nI 0)) dL_law_2354 kI_0 ?_
          refine S_ldJ (pc := 2355) dL_law_2355 (fun y_268 => ?_)
          refine S_iload (pc := 2356) dL_law_2356 rfl ?_
          refine S_i2l (pc := 2358) dL_law_2358 ?_
          refine S_lcmp (pc := 2359) dL_law_2359 ?_
          refine S_ifeq (pc := 2360) (tgt := 2365) dL_law_2360 (by decide) ?_ ?_
          · refine S_goto (pc := 2365) (tgt := 2382) dL_law_2365 (by decide) ?_
            exact (S_lv (lv0 := [some (.ref r0), some (.ref r1), some (.ref r2), some (.ref r3), some (.int v4), none, none]) (And.intro rfl (And.intro rfl (And.intro rfl (And.intro rfl (And.intro rfl trivial))))) (sL_law_2382 (h23 (kc + 3) (ks + 18) (by omega) (by omega)) r0 r1 r2 r3 v4))
          · refine S_iconst (pc := 2363) (v := (nI 0)) dL_law_2363 kI_0 ?_
            exact S_zret (pc := 2364) ⟨ble_le (show _ ≤ 601024 by omega), ble_le (show _ ≤ 7293034 by omega)⟩ rfl rfl dL_law_2364
      · refine S_iconst (pc := 2346) (v := (nI 0)) dL_law_2346 kI_0 ?_
        exact S_zret (pc := 2347) ⟨ble_le (show _ ≤ 601024 by omega), ble_le (show _ ≤ 7293034 by omega)⟩ rfl rfl dL_law_2347
    refine S_case (x := (x_13 &&& (nI 31))) (v := (nI 30)) (fun n30 => ?_) (fun n30 => ?_)
    · refine S_tsI (pc := 40) (tgt := 2368) n30 dL_law_40 (by decide) rfl (by decide) ?_
      refine S_aload_n (pc := 2368) dL_law_2368 rfl ?_
      refine Y_Vl (pc := 2369) (st := []) (kc' := kc) (ks' := ks) (ktX8_checksum r1) mw_X8_checksum mv_X8_checksum w589 (RO.mk rfl rfl (ble_le (show kc + 0 ≤ 601024 by omega)) (ble_le (show ks + 0 ≤ 7293034 by omega))) rfl rfl rfl dL_law_2369 ⟨rfl, rfl⟩ (fun y_269 => ?_)
      refine S_aload_n (pc := 2372) dL_law_2372 rfl ?_
      refine Y_Vl (pc := 2373) (st := [.long y_269]) (kc' := kc) (ks' := ks) (ktX9_checksum r2) mw_X9_checksum mv_X9_checksum w1665 (RO.mk rfl rfl (ble_le (show kc + 0 ≤ 601024 by omega)) (ble_le (show ks + 0 ≤ 7293034 by omega))) rfl rfl rfl dL_law_2373 ⟨rfl, rfl⟩ (fun y_270 => ?_)
      refine S_lcmp (pc := 2376) dL_law_2376 ?_
      refine S_ifeq (pc := 2377) (tgt := 2382) dL_law_2377 (by decide) ?_ ?_
      · exact (sL_law_2382 (h23 kc ks (by omega) (by omega)) r0 r1 r2 r3 v4)
      · refine S_iconst (pc := 2380) (v := (nI 0)) dL_law_2380 kI_0 ?_
        exact S_zret (pc := 2381) ⟨ble_le (show _ ≤ 601024 by omega), ble_le (show _ ≤ 7293034 by omega)⟩ rfl rfl dL_law_2381
    refine S_tsD (pc := 40) (tgt := 2382) (by have n0 := lv_neT (a := 0) n0 rfl; have n1 := lv_neT (a := 1) n1 rfl; have n2 := lv_neT (a := 2) n2 rfl; have n3 := lv_neT (a := 3) n3 rfl; have n4 := lv_neT (a := 4) n4 rfl; have n5 := lv_neT (a := 5) n5 rfl; have n6 := lv_neT (a := 6) n6 rfl; have n7 := lv_neT (a := 7) n7 rfl; have n8 := lv_neT (a := 8) n8 rfl; have n9 := lv_neT (a := 9) n9 rfl; have n10 := lv_neT (a := 10) n10 rfl; have n11 := lv_neT (a := 11) n11 rfl; have n12 := lv_neT (a := 12) n12 rfl; have n13 := lv_neT (a := 13) n13 rfl; have n14 := lv_neT (a := 14) n14 rfl; have n15 := lv_neT (a := 15) n15 rfl; have n16 := lv_neT (a := 16) n16 rfl; have n17 := lv_neT (a := 17) n17 rfl; have n18 := lv_neT (a := 18) n18 rfl; have n19 := lv_neT (a := 19) n19 rfl; have n20 := lv_neT (a := 20) n20 rfl; have n21 := lv_neT (a := 21) n21 rfl; have n22 := lv_neT (a := 22) n22 rfl; have n23 := lv_neT (a := 23) n23 rfl; have n24 := lv_neT (a := 24) n24 rfl; have n25 := lv_neT (a := 25) n25 rfl; have n26 := lv_neT (a := 26) n26 rfl; have n27 := lv_neT (a := 27) n27 rfl; have n28 := lv_neT (a := 28) n28 rfl; have n29 := lv_neT (a := 29) n29 rfl; have n30 := lv_neT (a := 30) n30 rfl; omega) dL_law_40 (by decide) ?_
    exact (sL_law_2382 (h23 kc ks (by omega) (by omega)) r0 r1 r2 r3 v4)
theorem sL_law_23 : ∀ (n kc ks : Nat), kc + 3 * n ≤ 601024 → ks + 18 * n ≤ 7293034 → ∀ (r0 : Nat) (r1 : Nat) (r2 : Nat) (r3 : Nat) (v4 : Int32), Sm mL_law rI kc ks 23 [some (.ref r0), some (.ref r1), some (.ref r2), some (.ref r3), some (.int v4), none, none] [] (lL_law_23 n r0 r1 r2 r3 v4)
  | 0, _, _, _, _, _, _, _, _, _ => S_none
  | n + 1, kc, ks, hc, hs, r0, r1, r2, r3, v4 => sbL_law_23 kc ks (by omega) (by omega) (fun a b ha hb => sL_law_23 n a b (by omega) (by omega)) r0 r1 r2 r3 v4
theorem sL_law (r0 : Nat) : Sm mL_law rI 0 0 0 [some (.ref r0), none, none, none, none, none, none] [] (fL_law r0) := by
  unfold fL_law
  refine S_new (pc := 0) (c := 8) rfl w19 w20 w1 ⟨rfl, rfl⟩ dL_law_0 (fun a_271 => ?_)
  refine S_dup (pc := 3) rfl dL_law_3 ?_
  refine Y_I (pc := 4) (st := [.ref a_271]) (kc' := 485) (ks' := 11997) (ktX8_init a_271) mw_X8_init rfl rfl w22 w21 (RO.mk rfl rfl rfl rfl) rfl rfl rfl dL_law_4 ⟨rfl, rfl⟩ ?_
  refine Z_astore_n (pc := 7) (lv' := [some (.ref r0), some (.ref a_271), none, none, none, none, none]) dL_law_7 rfl rfl rfl ?_
  refine S_new (pc := 8) (c := 9) rfl w1169 w1170 w11 ⟨rfl, rfl⟩ dL_law_8 (fun a_272 => ?_)
  refine S_dup (pc := 11) rfl dL_law_11 ?_
  refine Y_I (pc := 12) (st := [.ref a_272]) (kc' := 493) (ks' := 19025) (ktX9_init a_272) mw_X9_init rfl rfl w1172 w1171 (RO.mk rfl rfl rfl rfl) rfl rfl rfl dL_law_12 ⟨rfl, rfl⟩ ?_
  refine Z_astore_n (pc := 15) (lv' := [some (.ref r0), some (.ref a_271), some (.ref a_272), none, none, none, none]) dL_law_15 rfl rfl rfl ?_
  refine S_iconst (pc := 16) (v := (nI 1)) dL_law_16 kI_1 ?_
  refine S_nwJ (pc := 17) (N := 1) w1676 (by decide) ⟨rfl, rfl, rfl⟩ dL_law_17 (fun a_273 => ?_)
  refine Z_astore_n (pc := 19) (lv' := [some (.ref r0), some (.ref a_271), some (.ref a_272), some (.ref a_273), none, none, none]) dL_law_19 rfl rfl rfl ?_
  refine S_iconst (pc := 20) (v := (nI 0)) dL_law_20 kI_0 ?_
  refine Z_istore (pc := 21) (lv' := [some (.ref r0), some (.ref a_271), some (.ref a_272), some (.ref a_273), some (.int (nI 0)), none, none]) dL_law_21 rfl rfl rfl ?_
  exact (sL_law_23 513 494 19026 (by decide) (by decide) r0 a_271 a_272 a_273 (nI 0))
