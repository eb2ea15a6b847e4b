def mX4_isAbstract : MI := (yX4_isAbstract, cX4_isAbstract, 2, (some .boolean), { frames := 0, cells := 0, slots := 0, locals := 0 }, [])
theorem mw_X4_isAbstract : MW mX4_isAbstract 1 := ⟨w500, w4, ⟨by decide, by decide⟩, by decide +kernel⟩
theorem mv_X4_isAbstract : MV mX4_isAbstract 4 := ⟨_, rfl, w498, w499⟩
def fX4_isAbstract  (r0 : Nat) (v1 : Int32) : AH → Option (Int32 × AH) := fun h =>
  (gP 4 r0 2 h).bind fun a_3 =>
  (ldI a_3 v1 h).bind fun x_4 =>
  if (x_4 &&& (nI 4)) = 0 then (
    rz (nI 0) (nI 0) h)
  else
  rz (nI 1) (nI 1) h
theorem sX4_isAbstract  (r0 : Nat) (v1 : Int32) : Sm mX4_isAbstract rI 0 0 0 [some (.ref r0), some (.int v1)] [] (fX4_isAbstract r0 v1) := by
  unfold fX4_isAbstract
  refine S_aload_n (pc := 0) dX4_isAbstract_0 rfl ?_
  refine S_gP (pc := 1) fl_X4_19 rfl dX4_isAbstract_1 (fun a_3 => ?_)
  refine S_iload_n (pc := 4) dX4_isAbstract_4 rfl ?_
  refine S_ldI (pc := 5) dX4_isAbstract_5 (fun x_4 => ?_)
  refine S_iconst (pc := 6) (v := (nI 4)) dX4_isAbstract_6 kI_4 ?_
  refine S_iand (pc := 7) dX4_isAbstract_7 ?_
  refine S_ifeq (pc := 8) (tgt := 15) dX4_isAbstract_8 (by decide) ?_ ?_
  · refine S_iconst (pc := 15) (v := (nI 0)) dX4_isAbstract_15 kI_0 ?_
    exact S_zret (pc := 16) ⟨rfl, rfl⟩ rfl rfl dX4_isAbstract_16
  · refine S_iconst (pc := 11) (v := (nI 1)) dX4_isAbstract_11 kI_1 ?_
    refine S_goto (pc := 12) (tgt := 16) dX4_isAbstract_12 (by decide) ?_
    exact S_zret (pc := 16) ⟨rfl, rfl⟩ rfl rfl dX4_isAbstract_16
theorem ktX4_isAbstract (r0 : Nat) (v1 : Int32) : Ct mX4_isAbstract rI [.ref r0, .int v1] (fX4_isAbstract r0 v1) := Ct.of (z := 0) pn_X4 rfl rfl rfl (sX4_isAbstract r0 v1)
def mX4_copyFrom : MI := (yX4_copyFrom, cX4_copyFrom, 2, none, { frames := 1, cells := 0, slots := 0, locals := 26 }, [])
theorem mw_X4_copyFrom : MW mX4_copyFrom 1 := ⟨w424, w4, ⟨by decide, by decide⟩, by decide +kernel⟩
theorem mv_X4_copyFrom : MV mX4_copyFrom 4 := ⟨_, rfl, w422, w423⟩
def fX4_copyFrom  (r0 : Nat) (r1 : Nat) : AH → Option (Unit × AH) := fun h =>
  (gI 4 r1 0 h).bind fun x_38 =>
  (pI 4 r0 0 x_38 h).bind fun h =>
  (gP 4 r1 1 h).bind fun a_39 =>
  (gP 4 r0 1 h).bind fun a_40 =>
  (gI 4 r0 0 h).bind fun x_41 =>
  (cpI a_39 (nI 0) a_40 (nI 0) x_41 h).bind fun h =>
  (gP 4 r1 2 h).bind fun a_42 =>
  (gP 4 r0 2 h).bind fun a_43 =>
  (gI 4 r0 0 h).bind fun x_44 =>
  (cpI a_42 (nI 0) a_43 (nI 0) x_44 h).bind fun h =>
  (gP 4 r1 3 h).bind fun a_45 =>
  (gP 4 r0 3 h).bind fun a_46 =>
  (gI 4 r0 0 h).bind fun x_47 =>
  (cpI a_45 (nI 0) a_46 (nI 0) x_47 h).bind fun h =>
  (gP 4 r1 4 h).bind fun a_48 =>
  (gP 4 r0 4 h).bind fun a_49 =>
  (gI 4 r0 0 h).bind fun x_50 =>
  (cpI a_48 (nI 0) a_49 (nI 0) x_50 h).bind fun h =>
  (gP 4 r1 5 h).bind fun a_51 =>
  (gP 4 r0 5 h).bind fun a_52 =>
  (gI 4 r0 0 h).bind fun x_53 =>
  (cpI a_51 (nI 0) a_52 (nI 0) x_53 h).bind fun h =>
  (gP 4 r1 6 h).bind fun a_54 =>
  (gP 4 r0 6 h).bind fun a_55 =>
  (gI 4 r0 0 h).bind fun x_56 =>
  (cpI a_54 (nI 0) a_55 (nI 0) x_56 h).bind fun h =>
  (gP 4 r1 7 h).bind fun a_57 =>
  (gP 4 r0 7 h).bind fun a_58 =>
  (gI 4 r0 0 h).bind fun x_59 =>
  (cpI a_57 (nI 0) a_58 (nI 0) x_59 h).bind fun h =>
  (gP 4 r1 8 h).bind fun a_60 =>
  (gP 4 r0 8 h).bind fun a_61 =>
  (gI 4 r0 0 h).bind fun x_62 =>
  (cpI a_60 (nI 0) a_61 (nI 0) x_62 h).bind fun h =>
  (gP 4 r1 9 h).bind fun a_63 =>
  (gP 4 r0 9 h).bind fun a_64 =>
  (gI 4 r0 0 h).bind fun x_65 =>
  (cpI a_63 (nI 0) a_64 (nI 0) x_65 h).bind fun h =>
  (gP 4 r1 10 h).bind fun a_66 =>
  (gP 4 r0 10 h).bind fun a_67 =>
  (gI 4 r0 0 h).bind fun x_68 =>
  (cpI a_66 (nI 0) a_67 (nI 0) x_68 h).bind fun h =>
  (gP 4 r1 11 h).bind fun a_69 =>
  (gP 4 r0 11 h).bind fun a_70 =>
  (gI 4 r0 0 h).bind fun x_71 =>
  (cpI a_69 (nI 0) a_70 (nI 0) x_71 h).bind fun h =>
  (gP 4 r1 12 h).bind fun a_72 =>
  (gP 4 r0 12 h).bind fun a_73 =>
  (gI 4 r0 0 h).bind fun x_74 =>
  (cpI a_72 (nI 0) a_73 (nI 0) x_74 h).bind fun h =>
  some ((), h)
theorem sX4_copyFrom  (r0 : Nat) (r1 : Nat) : Sm mX4_copyFrom rV 0 0 0 [some (.ref r0), some (.ref r1)] [] (fX4_copyFrom r0 r1) := by
  unfold fX4_copyFrom
  refine S_aload_n (pc := 0) dX4_copyFrom_0 rfl ?_
  refine S_aload_n (pc := 1) dX4_copyFrom_1 rfl ?_
  refine S_gI (pc := 2) fl_X4_9 rfl dX4_copyFrom_2 (fun x_38 => ?_)
  refine S_pI (pc := 5) fl_X4_9 rfl rfl dX4_copyFrom_5 ?_
  refine S_aload_n (pc := 8) dX4_copyFrom_8 rfl ?_
  refine S_gP (pc := 9) fl_X4_15 rfl dX4_copyFrom_9 (fun a_39 => ?_)
  refine S_iconst (pc := 12) (v := (nI 0)) dX4_copyFrom_12 kI_0 ?_
  refine S_aload_n (pc := 13) dX4_copyFrom_13 rfl ?_
  refine S_gP (pc := 14) fl_X4_15 rfl dX4_copyFrom_14 (fun a_40 => ?_)
  refine S_iconst (pc := 17) (v := (nI 0)) dX4_copyFrom_17 kI_0 ?_
  refine S_aload_n (pc := 18) dX4_copyFrom_18 rfl ?_
  refine S_gI (pc := 19) fl_X4_9 rfl dX4_copyFrom_19 (fun x_41 => ?_)
  refine S_cpI (pc := 22) w425 w420 w419 w10 ⟨rfl, rfl⟩ dX4_copyFrom_22 ?_
  refine S_aload_n (pc := 25) dX4_copyFrom_25 rfl ?_
  refine S_gP (pc := 26) fl_X4_19 rfl dX4_copyFrom_26 (fun a_42 => ?_)
  refine S_iconst (pc := 29) (v := (nI 0)) dX4_copyFrom_29 kI_0 ?_
  refine S_aload_n (pc := 30) dX4_copyFrom_30 rfl ?_
  refine S_gP (pc := 31) fl_X4_19 rfl dX4_copyFrom_31 (fun a_43 => ?_)
  refine S_iconst (pc := 34) (v := (nI 0)) dX4_copyFrom_34 kI_0 ?_
  refine S_aload_n (pc := 35) dX4_copyFrom_35 rfl ?_
  refine S_gI (pc := 36) fl_X4_9 rfl dX4_copyFrom_36 (fun x_44 => ?_)
  refine S_cpI (pc := 39) w425 w420 w419 w10 ⟨rfl, rfl⟩ dX4_copyFrom_39 ?_
  refine S_aload_n (pc := 42) dX4_copyFrom_42 rfl ?_
  refine S_gP (pc := 43) fl_X4_22 rfl dX4_copyFrom_43 (fun a_45 => ?_)
  refine S_iconst (pc := 46) (v := (nI 0)) dX4_copyFrom_46 kI_0 ?_
  refine S_aload_n (pc := 47) dX4_copyFrom_47 rfl ?_
  refine S_gP (pc := 48) fl_X4_22 rfl dX4_copyFrom_48 (fun a_46 => ?_)
  refine S_iconst (pc := 51) (v := (nI 0)) dX4_copyFrom_51 kI_0 ?_
  refine S_aload_n (pc := 52) dX4_copyFrom_52 rfl ?_
  refine S_gI (pc := 53) fl_X4_9 rfl dX4_copyFrom_53 (fun x_47 => ?_)
  refine S_cpI (pc := 56) w425 w420 w419 w10 ⟨rfl, rfl⟩ dX4_copyFrom_56 ?_
  refine S_aload_n (pc := 59) dX4_copyFrom_59 rfl ?_
  refine S_gP (pc := 60) fl_X4_25 rfl dX4_copyFrom_60 (fun a_48 => ?_)
  refine S_iconst (pc := 63) (v := (nI 0)) dX4_copyFrom_63 kI_0 ?_
  refine S_aload_n (pc := 64) dX4_copyFrom_64 rfl ?_
  refine S_gP (pc := 65) fl_X4_25 rfl dX4_copyFrom_65 (fun a_49 => ?_)
  refine S_iconst (pc := 68) (v := (nI 0)) dX4_copyFrom_68 kI_0 ?_
  refine S_aload_n (pc := 69) dX4_copyFrom_69 rfl ?_
  refine S_gI (pc := 70) fl_X4_9 rfl dX4_copyFrom_70 (fun x_50 => ?_)
  refine S_cpI (pc := 73) w425 w420 w419 w10 ⟨rfl, rfl⟩ dX4_copyFrom_73 ?_
  refine S_aload_n (pc := 76) dX4_copyFrom_76 rfl ?_
  refine S_gP (pc := 77) fl_X4_28 rfl dX4_copyFrom_77 (fun a_51 => ?_)
  refine S_iconst (pc := 80) (v := (nI 0)) dX4_copyFrom_80 kI_0 ?_
  refine S_aload_n (pc := 81) dX4_copyFrom_81 rfl ?_
  refine S_gP (pc := 82) fl_X4_28 rfl dX4_copyFrom_82 (fun a_52 => ?_)
  refine S_iconst (pc := 85) (v := (nI 0)) dX4_copyFrom_85 kI_0 ?_
  refine S_aload_n (pc := 86) dX4_copyFrom_86 rfl ?_
  refine S_gI (pc := 87) fl_X4_9 rfl dX4_copyFrom_87 (fun x_53 => ?_)
  refine S_cpI (pc := 90) w425 w420 w419 w10 ⟨rfl, rfl⟩ dX4_copyFrom_90 ?_
  refine S_aload_n (pc := 93) dX4_copyFrom_93 rfl ?_
  refine S_gP (pc := 94) fl_X4_31 rfl dX4_copyFrom_94 (fun a_54 => ?_)
  refine S_iconst (pc := 97) (v := (nI 0)) dX4_copyFrom_97 kI_0 ?_
  refine S_aload_n (pc := 98) dX4_copyFrom_98 rfl ?_
  refine S_gP (pc := 99) fl_X4_31 rfl dX4_copyFrom_99 (fun a_55 => ?_)
  refine S_iconst (pc := 102) (v := (nI 0)) dX4_copyFrom_102 kI_0 ?_
  refine S_aload_n (pc := 103) dX4_copyFrom_103 rfl ?_
  refine S_gI (pc := 104) fl_X4_9 rfl dX4_copyFrom_104 (fun x_56 => ?_)
  refine S_cpI (pc := 107) w425 w420 w419 w10 ⟨rfl, rfl⟩ dX4_copyFrom_107 ?_
  refine S_aload_n (pc := 110) dX4_copyFrom_110 rfl ?_
  refine S_gP (pc := 111) fl_X4_34 rfl dX4_copyFrom_111 (fun a_57 => ?_)
  refine S_iconst (pc := 114) (v := (nI 0)) dX4_copyFrom_114 kI_0 ?_
  refine S_aload_n (pc := 115) dX4_copyFrom_115 rfl ?_
  refine S_gP (pc := 116) fl_X4_34 rfl dX4_copyFrom_116 (fun a_58 => ?_)
  refine S_iconst (pc := 119) (v := (nI 0)) dX4_copyFrom_119 kI_0 ?_
  refine S_aload_n (pc := 120) dX4_copyFrom_120 rfl ?_
  refine S_gI (pc := 121) fl_X4_9 rfl dX4_copyFrom_121 (fun x_59 => ?_)
  refine S_cpI (pc := 124) w425 w420 w419 w10 ⟨rfl, rfl⟩ dX4_copyFrom_124 ?_
  refine S_aload_n (pc := 127) dX4_copyFrom_127 rfl ?_
  refine S_gP (pc := 128) fl_X4_37 rfl dX4_copyFrom_128 (fun a_60 => ?_)
  refine S_iconst (pc := 131) (v := (nI 0)) dX4_copyFrom_131 kI_0 ?_
  refine S_aload_n (pc := 132) dX4_copyFrom_132 rfl ?_
  refine S_gP (pc := 133) fl_X4_37 rfl dX4_copyFrom_133 (fun a_61 => ?_)
  refine S_iconst (pc := 136) (v := (nI 0)) dX4_copyFrom_136 kI_0 ?_
  refine S_aload_n (pc := 137) dX4_copyFrom_137 rfl ?_
  refine S_gI (pc := 138) fl_X4_9 rfl dX4_copyFrom_138 (fun x_62 => ?_)
  refine S_cpI (pc := 141) w425 w420 w419 w10 ⟨rfl, rfl⟩ dX4_copyFrom_141 ?_
  refine S_aload_n (pc := 144) dX4_copyFrom_144 rfl ?_
  refine S_gP (pc := 145) fl_X4_40 rfl dX4_copyFrom_145 (fun a_63 => ?_)
  refine S_iconst (pc := 148) (v := (nI 0)) dX4_copyFrom_148 kI_0 ?_
  refine S_aload_n (pc := 149) dX4_copyFrom_149 rfl ?_
  refine S_gP (pc := 150) fl_X4_40 rfl dX4_copyFrom_150 (fun a_64 => ?_)
  refine S_iconst (pc := 153) (v := (nI 0)) dX4_copyFrom_153 kI_0 ?_
  refine S_aload_n (pc := 154) dX4_copyFrom_154 rfl ?_
  refine S_gI (pc := 155) fl_X4_9 rfl dX4_copyFrom_155 (fun x_65 => ?_)
  refine S_cpI (pc := 158) w425 w420 w419 w10 ⟨rfl, rfl⟩ dX4_copyFrom_158 ?_
  refine S_aload_n (pc := 161) dX4_copyFrom_161 rfl ?_
  refine S_gP (pc := 162) fl_X4_43 rfl dX4_copyFrom_162 (fun a_66 => ?_)
  refine S_iconst (pc := 165) (v := (nI 0)) dX4_copyFrom_165 kI_0 ?_
  refine S_aload_n (pc := 166) dX4_copyFrom_166 rfl ?_
  refine S_gP (pc := 167) fl_X4_43 rfl dX4_copyFrom_167 (fun a_67 => ?_)
  refine S_iconst (pc := 170) (v := (nI 0)) dX4_copyFrom_170 kI_0 ?_
  refine S_aload_n (pc := 171) dX4_copyFrom_171 rfl ?_
  refine S_gI (pc := 172) fl_X4_9 rfl dX4_copyFrom_172 (fun x_68 => ?_)
  refine S_cpI (pc := 175) w425 w420 w419 w10 ⟨rfl, rfl⟩ dX4_copyFrom_175 ?_
  refine S_aload_n (pc := 178) dX4_copyFrom_178 rfl ?_
  refine S_gP (pc := 179) fl_X4_46 rfl dX4_copyFrom_179 (fun a_69 => ?_)
  refine S_iconst (pc := 182) (v := (nI 0)) dX4_copyFrom_182 kI_0 ?_
  refine S_aload_n (pc := 183) dX4_copyFrom_183 rfl ?_
  refine S_gP (pc := 184) fl_X4_46 rfl dX4_copyFrom_184 (fun a_70 => ?_)
  refine S_iconst (pc := 187) (v := (nI 0)) dX4_copyFrom_187 kI_0 ?_
  refine S_aload_n (pc := 188) dX4_copyFrom_188 rfl ?_
  refine S_gI (pc := 189) fl_X4_9 rfl dX4_copyFrom_189 (fun x_71 => ?_)
  refine S_cpI (pc := 192) w425 w420 w419 w10 ⟨rfl, rfl⟩ dX4_copyFrom_192 ?_
  refine S_aload_n (pc := 195) dX4_copyFrom_195 rfl ?_
  refine S_gP (pc := 196) fl_X4_49 rfl dX4_copyFrom_196 (fun a_72 => ?_)
  refine S_iconst (pc := 199) (v := (nI 0)) dX4_copyFrom_199 kI_0 ?_
  refine S_aload_n (pc := 200) dX4_copyFrom_200 rfl ?_
  refine S_gP (pc := 201) fl_X4_49 rfl dX4_copyFrom_201 (fun a_73 => ?_)
  refine S_iconst (pc := 204) (v := (nI 0)) dX4_copyFrom_204 kI_0 ?_
  refine S_aload_n (pc := 205) dX4_copyFrom_205 rfl ?_
  refine S_gI (pc := 206) fl_X4_9 rfl dX4_copyFrom_206 (fun x_74 => ?_)
  refine S_cpI (pc := 209) w425 w420 w419 w10 ⟨rfl, rfl⟩ dX4_copyFrom_209 ?_
  exact S_vret (pc := 212) ⟨rfl, rfl⟩ rfl rfl dX4_copyFrom_212
theorem ktX4_copyFrom (r0 : Nat) (r1 : Nat) : Ct mX4_copyFrom rV [.ref r0, .ref r1] (fX4_copyFrom r0 r1) := Ct.of (z := 0) pn_X4 rfl rfl rfl (sX4_copyFrom r0 r1)
def mX4_init : MI := (yX4_init, cX4_init, 1, none, { frames := 1, cells := 12, slots := 480, locals := 20 }, [])
theorem mw_X4_init : MW mX4_init 0 := ⟨w46, w4, ⟨by decide, by decide⟩, by decide +kernel⟩
def fX4_init  (r0 : Nat) : AH → Option (Unit × AH) := fun h =>
  (pI 4 r0 0 (nI 0) h).bind fun h =>
  bd (nwI (nI 40) h) fun a_13 h =>
  (pP 4 r0 1 a_13 h).bind fun h =>
  bd (nwI (nI 40) h) fun a_14 h =>
  (pP 4 r0 2 a_14 h).bind fun h =>
  bd (nwI (nI 40) h) fun a_15 h =>
  (pP 4 r0 3 a_15 h).bind fun h =>
  bd (nwI (nI 40) h) fun a_16 h =>
  (pP 4 r0 4 a_16 h).bind fun h =>
  bd (nwI (nI 40) h) fun a_17 h =>
  (pP 4 r0 5 a_17 h).bind fun h =>
  bd (nwI (nI 40) h) fun a_18 h =>
  (pP 4 r0 6 a_18 h).bind fun h =>
  bd (nwI (nI 40) h) fun a_19 h =>
  (pP 4 r0 7 a_19 h).bind fun h =>
  bd (nwI (nI 40) h) fun a_20 h =>
  (pP 4 r0 8 a_20 h).bind fun h =>
  bd (nwI (nI 40) h) fun a_21 h =>
  (pP 4 r0 9 a_21 h).bind fun h =>
  bd (nwI (nI 40) h) fun a_22 h =>
  (pP 4 r0 10 a_22 h).bind fun h =>
  bd (nwI (nI 40) h) fun a_23 h =>
  (pP 4 r0 11 a_23 h).bind fun h =>
  bd (nwI (nI 40) h) fun a_24 h =>
  (pP 4 r0 12 a_24 h).bind fun h =>
  some ((), h)
theorem sX4_init  (r0 : Nat) : Sm mX4_init rV 0 0 0 [some (.ref r0)] [] (fX4_init r0) := by
  unfold fX4_init
  refine S_aload_n (pc := 0) dX4_init_0 rfl ?_
  refine S_obj (pc := 1) w47 w25 w26 ⟨rfl, rfl⟩ dX4_init_1 ?_
  refine S_aload_n (pc := 4) dX4_init_4 rfl ?_
  refine S_iconst (pc := 5) (v := (nI 0)) dX4_init_5 kI_0 ?_
  refine S_pI (pc := 6) fl_X4_9 rfl rfl dX4_init_6 ?_
  refine S_aload_n (pc := 9) dX4_init_9 rfl ?_
  refine S_bipush (pc := 10) (v := (nI 40)) dX4_init_10 kB_40 ?_
  refine S_nwI (pc := 12) (N := 40) w119 (by decide) ⟨rfl, rfl, rfl⟩ dX4_init_12 (fun a_13 => ?_)
  refine S_pF (pc := 14) fl_X4_15 rfl rfl rfl (fun r hr => by cases hr; rfl) dX4_init_14 ?_
  refine S_aload_n (pc := 17) dX4_init_17 rfl ?_
  refine S_bipush (pc := 18) (v := (nI 40)) dX4_init_18 kB_40 ?_
  refine S_nwI (pc := 20) (N := 40) w119 (by decide) ⟨rfl, rfl, rfl⟩ dX4_init_20 (fun a_14 => ?_)
  refine S_pF (pc := 22) fl_X4_19 rfl rfl rfl (fun r hr => by cases hr; rfl) dX4_init_22 ?_
  refine S_aload_n (pc := 25) dX4_init_25 rfl ?_
  refine S_bipush (pc := 26) (v := (nI 40)) dX4_init_26 kB_40 ?_
  refine S_nwI (pc := 28) (N := 40) w119 (by decide) ⟨rfl, rfl, rfl⟩ dX4_init_28 (fun a_15 => ?_)
  refine S_pF (pc := 30) fl_X4_22 rfl rfl rfl (fun r hr => by cases hr; rfl) dX4_init_30 ?_
  refine S_aload_n (pc := 33) dX4_init_33 rfl ?_
  refine S_bipush (pc := 34) (v := (nI 40)) dX4_init_34 kB_40 ?_
  refine S_nwI (pc := 36) (N := 40) w119 (by decide) ⟨rfl, rfl, rfl⟩ dX4_init_36 (fun a_16 => ?_)
  refine S_pF (pc := 38) fl_X4_25 rfl rfl rfl (fun r hr => by cases hr; rfl) dX4_init_38 ?_
  refine S_aload_n (pc := 41) dX4_init_41 rfl ?_
  refine S_bipush (pc := 42) (v := (nI 40)) dX4_init_42 kB_40 ?_
  refine S_nwI (pc := 44) (N := 40) w119 (by decide) ⟨rfl, rfl, rfl⟩ dX4_init_44 (fun a_17 => ?_)
  refine S_pF (pc := 46) fl_X4_28 rfl rfl rfl (fun r hr => by cases hr; rfl) dX4_init_46 ?_
  refine S_aload_n (pc := 49) dX4_init_49 rfl ?_
  refine S_bipush (pc := 50) (v := (nI 40)) dX4_init_50 kB_40 ?_
  refine S_nwI (pc := 52) (N := 40) w119 (by decide) ⟨rfl, rfl, rfl⟩ dX4_init_52 (fun a_18 => ?_)
  refine S_pF (pc := 54) fl_X4_31 rfl rfl rfl (fun r hr => by cases hr; rfl) dX4_init_54 ?_
  refine S_aload_n (pc := 57) dX4_init_57 rfl ?_
  refine S_bipush (pc := 58) (v := (nI 40)) dX4_init_58 kB_40 ?_
  refine S_nwI (pc := 60) (N := 40) w119 (by decide) ⟨rfl, rfl, rfl⟩ dX4_init_60 (fun a_19 => ?_)
  refine S_pF (pc := 62) fl_X4_34 rfl rfl rfl (fun r hr => by cases hr; rfl) dX4_init_62 ?_
  refine S_aload_n (pc := 65) dX4_init_65 rfl ?_
  refine S_bipush (pc := 66) (v := (nI 40)) dX4_init_66 kB_40 ?_
  refine S_nwI (pc := 68) (N := 40) w119 (by decide) ⟨rfl, rfl, rfl⟩ dX4_init_68 (fun a_20 => ?_)
  refine S_pF (pc := 70) fl_X4_37 rfl rfl rfl (fun r hr => by cases hr; rfl) dX4_init_70 ?_
  refine S_aload_n (pc := 73) dX4_init_73 rfl ?_
  refine S_bipush (pc := 74) (v := (nI 40)) dX4_init_74 kB_40 ?_
  refine S_nwI (pc := 76) (N := 40) w119 (by decide) ⟨rfl, rfl, rfl⟩ dX4_init_76 (fun a_21 => ?_)
  refine S_pF (pc := 78) fl_X4_40 rfl rfl rfl (fun r hr => by cases hr; rfl) dX4_init_78 ?_
  refine S_aload_n (pc := 81) dX4_init_81 rfl ?_
  refine S_bipush (pc := 82) (v := (nI 40)) dX4_init_82 kB_40 ?_
  refine S_nwI (pc := 84) (N := 40) w119 (by decide) ⟨rfl, rfl, rfl⟩ dX4_init_84 (fun a_22 => ?_)
  refine S_pF (pc := 86) fl_X4_43 rfl rfl rfl (fun r hr => by cases hr; rfl) dX4_init_86 ?_
  refine S_aload_n (pc := 89) dX4_init_89 rfl ?_
  refine S_bipush (pc := 90) (v := (nI 40)) dX4_init_90 kB_40 ?_
  refine S_nwI (pc := 92) (N := 40) w119 (by decide) ⟨rfl, rfl, rfl⟩ dX4_init_92 (fun a_23 => ?_)
  refine S_pF (pc := 94) fl_X4_46 rfl rfl rfl (fun r hr => by cases hr; rfl) dX4_init_94 ?_
  refine S_aload_n (pc := 97) dX4_init_97 rfl ?_
  refine S_bipush (pc := 98) (v := (nI 40)) dX4_init_98 kB_40 ?_
  refine S_nwI (pc := 100) (N := 40) w119 (by decide) ⟨rfl, rfl, rfl⟩ dX4_init_100 (fun a_24 => ?_)
  refine S_pF (pc := 102) fl_X4_49 rfl rfl rfl (fun r hr => by cases hr; rfl) dX4_init_102 ?_
  exact S_vret (pc := 105) ⟨rfl, rfl⟩ rfl rfl dX4_init_105
theorem ktX4_init (r0 : Nat) : Ct mX4_init rV [.ref r0] (fX4_init r0) := Ct.of (z := 0) pn_X4 rfl rfl rfl (sX4_init r0)
def mX4_countOf : MI := (yX4_countOf, cX4_countOf, 4, (some .int), { frames := 0, cells := 0, slots := 0, locals := 0 }, [])
theorem mw_X4_countOf : MW mX4_countOf 1 := ⟨w605, w4, ⟨by decide, by decide⟩, by decide +kernel⟩
theorem mv_X4_countOf : MV mX4_countOf 4 := ⟨_, rfl, w603, w604⟩
def fX4_countOf_25 (k4 : Nat → Int32 → Int32 → Int32 → AH → Option (Int32 × AH)) (r0 : Nat) (v1 : Int32) (v2 : Int32) (v3 : Int32) : AH → Option (Int32 × AH) := fun h =>
  k4 r0 v1 v2 (v3 + (nI 1)) h
def bX4_countOf_4  (k4 : Nat → Int32 → Int32 → Int32 → AH → Option (Int32 × AH)) (r0 : Nat) (v1 : Int32) (v2 : Int32) (v3 : Int32) : AH → Option (Int32 × AH) := fun h =>
  (gI 4 r0 0 h).bind fun x_7 =>
  if x_7 ≤ v3 then (
    some (v2, h))
  else
  (gP 4 r0 5 h).bind fun a_8 =>
  (ldI a_8 v3 h).bind fun x_9 =>
  if x_9 = v1 then (
    fX4_countOf_25 k4 r0 v1 (v2 + (nI 1)) v3 h)
  else
  fX4_countOf_25 k4 r0 v1 v2 v3 h
def lX4_countOf_4  : Nat → Nat → Int32 → Int32 → Int32 → AH → Option (Int32 × AH)
  | 0 => fun _ _ _ _ _ => none
  | n + 1 => bX4_countOf_4 (lX4_countOf_4 n)
def fX4_countOf  (r0 : Nat) (v1 : Int32) : AH → Option (Int32 × AH) := fun h =>
  lX4_countOf_4 fuel r0 v1 (nI 0) (nI 0) h
theorem sX4_countOf_25 {k4 : Nat → Int32 → Int32 → Int32 → AH → Option (Int32 × AH)} (h4 : ∀ (r0 : Nat) (v1 : Int32) (v2 : Int32) (v3 : Int32), Sm mX4_countOf rI 0 0 4 [some (.ref r0), some (.int v1), some (.int v2), some (.int v3)] [] (k4 r0 v1 v2 v3)) (r0 : Nat) (v1 : Int32) (v2 : Int32) (v3 : Int32) : Sm mX4_countOf rI 0 0 25 [some (.ref r0), some (.int v1), some (.int v2), some (.int v3)] [] (fX4_countOf_25 k4 r0 v1 v2 v3) := by
  unfold fX4_countOf_25
  refine Z_iinc (pc := 25) (v := (nI 1)) (lv' := [some (.ref r0), some (.int v1), some (.int v2), some (.int (v3 + (nI 1)))]) dX4_countOf_25 rfl kI_1 rfl rfl rfl ?_
  refine S_goto (pc := 28) (tgt := 4) dX4_countOf_28 (by decide) ?_
  exact (h4 r0 v1 v2 (v3 + (nI 1)))
theorem sbX4_countOf_4  {k4 : Nat → Int32 → Int32 → Int32 → AH → Option (Int32 × AH)} (h4 : ∀ (r0 : Nat) (v1 : Int32) (v2 : Int32) (v3 : Int32), Sm mX4_countOf rI 0 0 4 [some (.ref r0), some (.int v1), some (.int v2), some (.int v3)] [] (k4 r0 v1 v2 v3)) (r0 : Nat) (v1 : Int32) (v2 : Int32) (v3 : Int32) : Sm mX4_countOf rI 0 0 4 [some (.ref r0), some (.int v1), some (.int v2), some (.int v3)] [] (bX4_countOf_4 k4 r0 v1 v2 v3) := by
  unfold bX4_countOf_4
  refine S_iload_n (pc := 4) dX4_countOf_4 rfl ?_
  refine S_aload_n (pc := 5) dX4_countOf_5 rfl ?_
  refine S_gI (pc := 6) fl_X4_9 rfl dX4_countOf_6 (fun x_7 => ?_)
  refine S_icmpge (pc := 9) (tgt := 31) dX4_countOf_9 (by decide) ?_ ?_
  · refine S_iload_n (pc := 31) dX4_countOf_31 rfl ?_
    exact S_iret (pc := 32) ⟨rfl, rfl⟩ rfl rfl dX4_countOf_32
  · refine S_aload_n (pc := 12) dX4_countOf_12 rfl ?_
    refine S_gP (pc := 13) fl_X4_28 rfl dX4_countOf_13 (fun a_8 => ?_)
    refine S_iload_n (pc := 16) dX4_countOf_16 rfl ?_
    refine S_ldI (pc := 17) dX4_countOf_17 (fun x_9 => ?_)
    refine S_iload_n (pc := 18) dX4_countOf_18 rfl ?_
    refine S_icmpne (pc := 19) (tgt := 25) dX4_countOf_19 (by decide) ?_ ?_
    · exact (sX4_countOf_25 h4 r0 v1 v2 v3)
    · refine Z_iinc (pc := 22) (v := (nI 1)) (lv' := [some (.ref r0), some (.int v1), some (.int (v2 + (nI 1))), some (.int v3)]) dX4_countOf_22 rfl kI_1 rfl rfl rfl ?_
      exact (sX4_countOf_25 h4 r0 v1 (v2 + (nI 1)) v3)
theorem sX4_countOf_4  : ∀ (n : Nat) (r0 : Nat) (v1 : Int32) (v2 : Int32) (v3 : Int32), Sm mX4_countOf rI 0 0 4 [some (.ref r0), some (.int v1), some (.int v2), some (.int v3)] [] (lX4_countOf_4 n r0 v1 v2 v3)
  | 0, _, _, _, _ => S_none
  | n + 1, r0, v1, v2, v3 => sbX4_countOf_4 (sX4_countOf_4 n) r0 v1 v2 v3
theorem sX4_countOf  (r0 : Nat) (v1 : Int32) : Sm mX4_countOf rI 0 0 0 [some (.ref r0), some (.int v1), none, none] [] (fX4_countOf r0 v1) := by
  unfold fX4_countOf
  refine S_iconst (pc := 0) (v := (nI 0)) dX4_countOf_0 kI_0 ?_
  refine Z_istore_n (pc := 1) (lv' := [some (.ref r0), some (.int v1), some (.int (nI 0)), none]) dX4_countOf_1 rfl rfl rfl ?_
  refine S_iconst (pc := 2) (v := (nI 0)) dX4_countOf_2 kI_0 ?_
  refine Z_istore_n (pc := 3) (lv' := [some (.ref r0), some (.int v1), some (.int (nI 0)), some (.int (nI 0))]) dX4_countOf_3 rfl rfl rfl ?_
  exact (sX4_countOf_4 fuel r0 v1 (nI 0) (nI 0))
theorem ktX4_countOf (r0 : Nat) (v1 : Int32) : Ct mX4_countOf rI [.ref r0, .int v1] (fX4_countOf r0 v1) := Ct.of (z := 2) pn_X4 rfl rfl rfl (sX4_countOf r0 v1)
def mX4_signatureOf : MI := (yX4_signatureOf, cX4_signatureOf, 3, (some .int), { frames := 0, cells := 0, slots := 0, locals := 0 }, [])
theorem mw_X4_signatureOf : MW mX4_signatureOf 3 := ⟨w398, w4, ⟨by decide, by decide⟩, by decide +kernel⟩
def fX4_signatureOf  (v0 : Int32) (v1 : Int32) (v2 : Int32) : AH → Option (Int32 × AH) := fun h =>
  some (((((((v0 * (nI 12)) + v1) - (-2 : Int32)) * (nI 12)) + v2) - (-2 : Int32)), h)
theorem sX4_signatureOf  (v0 : Int32) (v1 : Int32) (v2 : Int32) : Sm mX4_signatureOf rI 0 0 0 [some (.int v0), some (.int v1), some (.int v2)] [] (fX4_signatureOf v0 v1 v2) := by
  unfold fX4_signatureOf
  refine S_iload_n (pc := 0) dX4_signatureOf_0 rfl ?_
  refine S_bipush (pc := 1) (v := (nI 12)) dX4_signatureOf_1 kB_12 ?_
  refine S_imul (pc := 3) dX4_signatureOf_3 ?_
  refine S_iload_n (pc := 4) dX4_signatureOf_4 rfl ?_
  refine S_iadd (pc := 5) dX4_signatureOf_5 ?_
  refine S_bipush (pc := 6) (v := (-2 : Int32)) dX4_signatureOf_6 kB_m2 ?_
  refine S_isub (pc := 8) dX4_signatureOf_8 ?_
  refine S_bipush (pc := 9) (v := (nI 12)) dX4_signatureOf_9 kB_12 ?_
  refine S_imul (pc := 11) dX4_signatureOf_11 ?_
  refine S_iload_n (pc := 12) dX4_signatureOf_12 rfl ?_
  refine S_iadd (pc := 13) dX4_signatureOf_13 ?_
  refine S_bipush (pc := 14) (v := (-2 : Int32)) dX4_signatureOf_14 kB_m2 ?_
  refine S_isub (pc := 16) dX4_signatureOf_16 ?_
  exact S_iret (pc := 17) ⟨rfl, rfl⟩ rfl rfl dX4_signatureOf_17
theorem ktX4_signatureOf (v0 : Int32) (v1 : Int32) (v2 : Int32) : Ct mX4_signatureOf rI [.int v0, .int v1, .int v2] (fX4_signatureOf v0 v1 v2) := Ct.of (z := 0) pn_X4 rfl rfl rfl (sX4_signatureOf v0 v1 v2)
def mX4_descriptorOf : MI := (yX4_descriptorOf, cX4_descriptorOf, 2, (some .int), { frames := 0, cells := 0, slots := 0, locals := 0 }, [])
theorem mw_X4_descriptorOf : MW mX4_descriptorOf 2 := ⟨w401, w4, ⟨by decide, by decide⟩, by decide +kernel⟩
def fX4_descriptorOf  (v0 : Int32) (v1 : Int32) : AH → Option (Int32 × AH) := fun h =>
  some ((((v0 * (nI 12)) + v1) - (-2 : Int32)), h)
theorem sX4_descriptorOf  (v0 : Int32) (v1 : Int32) : Sm mX4_descriptorOf rI 0 0 0 [some (.int v0), some (.int v1)] [] (fX4_descriptorOf v0 v1) := by
  unfold fX4_descriptorOf
  refine S_iload_n (pc := 0) dX4_descriptorOf_0 rfl ?_
  refine S_bipush (pc := 1) (v := (nI 12)) dX4_descriptorOf_1 kB_12 ?_
  refine S_imul (pc := 3) dX4_descriptorOf_3 ?_
  refine S_iload_n (pc := 4) dX4_descriptorOf_4 rfl ?_
  refine S_iadd (pc := 5) dX4_descriptorOf_5 ?_
  refine S_bipush (pc := 6) (v := (-2 : Int32)) dX4_descriptorOf_6 kB_m2 ?_
  refine S_isub (pc := 8) dX4_descriptorOf_8 ?_
  exact S_iret (pc := 9) ⟨rfl, rfl⟩ rfl rfl dX4_descriptorOf_9
theorem ktX4_descriptorOf (v0 : Int32) (v1 : Int32) : Ct mX4_descriptorOf rI [.int v0, .int v1] (fX4_descriptorOf v0 v1) := Ct.of (z := 0) pn_X4 rfl rfl rfl (sX4_descriptorOf v0 v1)
def mX4_append : MI := (yX4_append, cX4_append, 8, none, { frames := 1, cells := 0, slots := 0, locals := 22 }, [])
theorem mw_X4_append : MW mX4_append 6 := ⟨w395, w4, ⟨by decide, by decide⟩, by decide +kernel⟩
theorem mv_X4_append : MV mX4_append 4 := ⟨_, rfl, w393, w394⟩
def fX4_append_227  (r0 : Nat) (s0 : Nat) (s1 : Int32) (s2 : Int32) : AH → Option (Unit × AH) := fun h =>
  (stI s0 s1 s2 h).bind fun h =>
  (gI 4 r0 0 h).bind fun x_75 =>
  (pI 4 r0 0 (x_75 + (nI 1)) h).bind fun h =>
  some ((), h)
def fX4_append_192  (r0 : Nat) (r6 : Nat) (v7 : Int32) (s0 : Nat) (s1 : Int32) (s2 : Int32) : AH → Option (Unit × AH) := fun h =>
  (stI s0 s1 s2 h).bind fun h =>
  (gP 4 r0 12 h).bind fun a_76 =>
  (gI 4 r0 0 h).bind fun x_77 =>
  if v7 = 0 then (
    fX4_append_227 r0 a_76 x_77 (-1 : Int32) h)
  else
  (gP 4 r0 11 h).bind fun a_78 =>
  (gI 4 r0 0 h).bind fun x_79 =>
  (ldI a_78 x_79 h).bind fun x_80 =>
  (gI 5 r6 0 h).bind fun x_81 =>
  bd (fX4_descriptorOf x_80 x_81 h) fun x_82 h =>
  fX4_append_227 r0 a_76 x_77 x_82 h
def fX4_append_160  (r0 : Nat) (v3 : Int32) (r6 : Nat) (v7 : Int32) (s0 : Nat) (s1 : Int32) (s2 : Int32) : AH → Option (Unit × AH) := fun h =>
  (stI s0 s1 s2 h).bind fun h =>
  (gP 4 r0 11 h).bind fun a_83 =>
  (gI 4 r0 0 h).bind fun x_84 =>
  if v7 = 0 then (
    fX4_append_192 r0 r6 v7 a_83 x_84 (-1 : Int32) h)
  else
  (gI 5 r6 2 h).bind fun x_85 =>
  (gI 5 r6 3 h).bind fun x_86 =>
  bd (fX4_signatureOf v3 x_85 x_86 h) fun x_87 h =>
  fX4_append_192 r0 r6 v7 a_83 x_84 x_87 h
def fX4_append_136  (r0 : Nat) (v3 : Int32) (r6 : Nat) (v7 : Int32) (s0 : Nat) (s1 : Int32) (s2 : Int32) : AH → Option (Unit × AH) := fun h =>
  (stI s0 s1 s2 h).bind fun h =>
  (gP 4 r0 10 h).bind fun a_88 =>
  (gI 4 r0 0 h).bind fun x_89 =>
  if v7 = 0 then (
    fX4_append_160 r0 v3 r6 v7 a_88 x_89 (-2 : Int32) h)
  else
  (gI 5 r6 3 h).bind fun x_90 =>
  fX4_append_160 r0 v3 r6 v7 a_88 x_89 x_90 h
def fX4_append_112  (r0 : Nat) (v3 : Int32) (r6 : Nat) (v7 : Int32) (s0 : Nat) (s1 : Int32) (s2 : Int32) : AH → Option (Unit × AH) := fun h =>
  (stI s0 s1 s2 h).bind fun h =>
  (gP 4 r0 9 h).bind fun a_91 =>
  (gI 4 r0 0 h).bind fun x_92 =>
  if v7 = 0 then (
    fX4_append_136 r0 v3 r6 v7 a_91 x_92 (-2 : Int32) h)
  else
  (gI 5 r6 2 h).bind fun x_93 =>
  fX4_append_136 r0 v3 r6 v7 a_91 x_92 x_93 h
def fX4_append_10  (r0 : Nat) (v1 : Int32) (v2 : Int32) (v3 : Int32) (v4 : Int32) (v5 : Int32) (r6 : Nat) (s0 : Int32) : AH → Option (Unit × AH) := fun h =>
  (gP 4 r0 4 h).bind fun a_94 =>
  (gI 4 r0 0 h).bind fun x_95 =>
  (stI a_94 x_95 v1 h).bind fun h =>
  (gP 4 r0 5 h).bind fun a_96 =>
  (gI 4 r0 0 h).bind fun x_97 =>
  (stI a_96 x_97 v2 h).bind fun h =>
  (gP 4 r0 6 h).bind fun a_98 =>
  (gI 4 r0 0 h).bind fun x_99 =>
  (stI a_98 x_99 v3 h).bind fun h =>
  (gP 4 r0 1 h).bind fun a_100 =>
  (gI 4 r0 0 h).bind fun x_101 =>
  (stI a_100 x_101 v4 h).bind fun h =>
  (gP 4 r0 2 h).bind fun a_102 =>
  (gI 4 r0 0 h).bind fun x_103 =>
  (stI a_102 x_103 v5 h).bind fun h =>
  (gP 4 r0 3 h).bind fun a_104 =>
  (gI 4 r0 0 h).bind fun x_105 =>
  (stI a_104 x_105 (-2 : Int32) h).bind fun h =>
  (gP 4 r0 7 h).bind fun a_106 =>
  (gI 4 r0 0 h).bind fun x_107 =>
  (gI 5 r6 0 h).bind fun x_108 =>
  (stI a_106 x_107 x_108 h).bind fun h =>
  (gP 4 r0 8 h).bind fun a_109 =>
  (gI 4 r0 0 h).bind fun x_110 =>
  if s0 = 0 then (
    fX4_append_112 r0 v3 r6 s0 a_109 x_110 (-2 : Int32) h)
  else
  (gI 5 r6 1 h).bind fun x_111 =>
  fX4_append_112 r0 v3 r6 s0 a_109 x_110 x_111 h
def fX4_append  (r0 : Nat) (v1 : Int32) (v2 : Int32) (v3 : Int32) (v4 : Int32) (v5 : Int32) (r6 : Nat) : AH → Option (Unit × AH) := fun h =>
  if v1 = (nI 1) then (
    fX4_append_10 r0 v1 v2 v3 v4 v5 r6 (nI 1) h)
  else
  fX4_append_10 r0 v1 v2 v3 v4 v5 r6 (nI 0) h
theorem sX4_append_227  (r0 : Nat) (s0 : Nat) (s1 : Int32) (s2 : Int32) : Sm mX4_append rV 0 0 227 [some (.ref r0), none, none, none, none, none, none, none] [.int s2, .int s1, .ref s0] (fX4_append_227 r0 s0 s1 s2) := by
  unfold fX4_append_227
  refine S_stI (pc := 227) dX4_append_227 ?_
  refine S_aload_n (pc := 228) dX4_append_228 rfl ?_
  refine S_dup (pc := 229) rfl dX4_append_229 ?_
  refine S_gI (pc := 230) fl_X4_9 rfl dX4_append_230 (fun x_75 => ?_)
  refine S_iconst (pc := 233) (v := (nI 1)) dX4_append_233 kI_1 ?_
  refine S_iadd (pc := 234) dX4_append_234 ?_
  refine S_pI (pc := 235) fl_X4_9 rfl rfl dX4_append_235 ?_
  exact S_vret (pc := 238) ⟨rfl, rfl⟩ rfl rfl dX4_append_238
theorem sX4_append_192  (r0 : Nat) (r6 : Nat) (v7 : Int32) (s0 : Nat) (s1 : Int32) (s2 : Int32) : Sm mX4_append rV 0 0 192 [some (.ref r0), none, none, none, none, none, some (.ref r6), some (.int v7)] [.int s2, .int s1, .ref s0] (fX4_append_192 r0 r6 v7 s0 s1 s2) := by
  unfold fX4_append_192
  refine S_stI (pc := 192) dX4_append_192 ?_
  refine S_aload_n (pc := 193) dX4_append_193 rfl ?_
  refine S_gP (pc := 194) fl_X4_49 rfl dX4_append_194 (fun a_76 => ?_)
  refine S_aload_n (pc := 197) dX4_append_197 rfl ?_
  refine S_gI (pc := 198) fl_X4_9 rfl dX4_append_198 (fun x_77 => ?_)
  refine S_iload (pc := 201) dX4_append_201 rfl ?_
  refine S_ifeq (pc := 203) (tgt := 226) dX4_append_203 (by decide) ?_ ?_
  · refine S_iconst (pc := 226) (v := (-1 : Int32)) dX4_append_226 kI_m1 ?_
    exact (S_lv (lv0 := [some (.ref r0), none, none, none, none, none, none, none]) (And.intro rfl trivial) (sX4_append_227 r0 a_76 x_77 (-1 : Int32)))
  · refine S_aload_n (pc := 206) dX4_append_206 rfl ?_
    refine S_gP (pc := 207) fl_X4_46 rfl dX4_append_207 (fun a_78 => ?_)
    refine S_aload_n (pc := 210) dX4_append_210 rfl ?_
    refine S_gI (pc := 211) fl_X4_9 rfl dX4_append_211 (fun x_79 => ?_)
    refine S_ldI (pc := 214) dX4_append_214 (fun x_80 => ?_)
    refine S_aload (pc := 215) dX4_append_215 rfl ?_
    refine S_gI (pc := 217) fl_X4_52 rfl dX4_append_217 (fun x_81 => ?_)
    refine Y_Ti (pc := 220) (st := [.int x_77, .ref a_76]) (kc' := 0) (ks' := 0) (ktX4_descriptorOf x_80 x_81) mw_X4_descriptorOf w400 w399 (RO.mk rfl rfl rfl rfl) rfl rfl rfl dX4_append_220 ⟨rfl, rfl⟩ (fun x_82 => ?_)
    refine S_goto (pc := 223) (tgt := 227) dX4_append_223 (by decide) ?_
    exact (S_lv (lv0 := [some (.ref r0), none, none, none, none, none, none, none]) (And.intro rfl trivial) (sX4_append_227 r0 a_76 x_77 x_82))
theorem sX4_append_160  (r0 : Nat) (v3 : Int32) (r6 : Nat) (v7 : Int32) (s0 : Nat) (s1 : Int32) (s2 : Int32) : Sm mX4_append rV 0 0 160 [some (.ref r0), none, none, some (.int v3), none, none, some (.ref r6), some (.int v7)] [.int s2, .int s1, .ref s0] (fX4_append_160 r0 v3 r6 v7 s0 s1 s2) := by
  unfold fX4_append_160
  refine S_stI (pc := 160) dX4_append_160 ?_
  refine S_aload_n (pc := 161) dX4_append_161 rfl ?_
  refine S_gP (pc := 162) fl_X4_46 rfl dX4_append_162 (fun a_83 => ?_)
  refine S_aload_n (pc := 165) dX4_append_165 rfl ?_
  refine S_gI (pc := 166) fl_X4_9 rfl dX4_append_166 (fun x_84 => ?_)
  refine S_iload (pc := 169) dX4_append_169 rfl ?_
  refine S_ifeq (pc := 171) (tgt := 191) dX4_append_171 (by decide) ?_ ?_
  · refine S_iconst (pc := 191) (v := (-1 : Int32)) dX4_append_191 kI_m1 ?_
    exact (S_lv (lv0 := [some (.ref r0), none, none, none, none, none, some (.ref r6), some (.int v7)]) (And.intro rfl (And.intro rfl (And.intro rfl trivial))) (sX4_append_192 r0 r6 v7 a_83 x_84 (-1 : Int32)))
  · refine S_iload_n (pc := 174) dX4_append_174 rfl ?_
    refine S_aload (pc := 175) dX4_append_175 rfl ?_
    refine S_gI (pc := 177) fl_X4_59 rfl dX4_append_177 (fun x_85 => ?_)
    refine S_aload (pc := 180) dX4_append_180 rfl ?_
    refine S_gI (pc := 182) fl_X4_61 rfl dX4_append_182 (fun x_86 => ?_)
    refine Y_Ti (pc := 185) (st := [.int x_84, .ref a_83]) (kc' := 0) (ks' := 0) (ktX4_signatureOf v3 x_85 x_86) mw_X4_signatureOf w397 w396 (RO.mk rfl rfl rfl rfl) rfl rfl rfl dX4_append_185 ⟨rfl, rfl⟩ (fun x_87 => ?_)
    refine S_goto (pc := 188) (tgt := 192) dX4_append_188 (by decide) ?_
    exact (S_lv (lv0 := [some (.ref r0), none, none, none, none, none, some (.ref r6), some (.int v7)]) (And.intro rfl (And.intro rfl (And.intro rfl trivial))) (sX4_append_192 r0 r6 v7 a_83 x_84 x_87))
theorem sX4_append_136  (r0 : Nat) (v3 : Int32) (r6 : Nat) (v7 : Int32) (s0 : Nat) (s1 : Int32) (s2 : Int32) : Sm mX4_append rV 0 0 136 [some (.ref r0), none, none, some (.int v3), none, none, some (.ref r6), some (.int v7)] [.int s2, .int s1, .ref s0] (fX4_append_136 r0 v3 r6 v7 s0 s1 s2) := by
  unfold fX4_append_136
  refine S_stI (pc := 136) dX4_append_136 ?_
  refine S_aload_n (pc := 137) dX4_append_137 rfl ?_
  refine S_gP (pc := 138) fl_X4_43 rfl dX4_append_138 (fun a_88 => ?_)
  refine S_aload_n (pc := 141) dX4_append_141 rfl ?_
  refine S_gI (pc := 142) fl_X4_9 rfl dX4_append_142 (fun x_89 => ?_)
  refine S_iload (pc := 145) dX4_append_145 rfl ?_
  refine S_ifeq (pc := 147) (tgt := 158) dX4_append_147 (by decide) ?_ ?_
  · refine S_bipush (pc := 158) (v := (-2 : Int32)) dX4_append_158 kB_m2 ?_
    exact (sX4_append_160 r0 v3 r6 v7 a_88 x_89 (-2 : Int32))
  · refine S_aload (pc := 150) dX4_append_150 rfl ?_
    refine S_gI (pc := 152) fl_X4_61 rfl dX4_append_152 (fun x_90 => ?_)
    refine S_goto (pc := 155) (tgt := 160) dX4_append_155 (by decide) ?_
    exact (sX4_append_160 r0 v3 r6 v7 a_88 x_89 x_90)
theorem sX4_append_112  (r0 : Nat) (v3 : Int32) (r6 : Nat) (v7 : Int32) (s0 : Nat) (s1 : Int32) (s2 : Int32) : Sm mX4_append rV 0 0 112 [some (.ref r0), none, none, some (.int v3), none, none, some (.ref r6), some (.int v7)] [.int s2, .int s1, .ref s0] (fX4_append_112 r0 v3 r6 v7 s0 s1 s2) := by
  unfold fX4_append_112
  refine S_stI (pc := 112) dX4_append_112 ?_
  refine S_aload_n (pc := 113) dX4_append_113 rfl ?_
  refine S_gP (pc := 114) fl_X4_40 rfl dX4_append_114 (fun a_91 => ?_)
  refine S_aload_n (pc := 117) dX4_append_117 rfl ?_
  refine S_gI (pc := 118) fl_X4_9 rfl dX4_append_118 (fun x_92 => ?_)
  refine S_iload (pc := 121) dX4_append_121 rfl ?_
  refine S_ifeq (pc := 123) (tgt := 134) dX4_append_123 (by decide) ?_ ?_
  · refine S_bipush (pc := 134) (v := (-2 : Int32)) dX4_append_134 kB_m2 ?_
    exact (sX4_append_136 r0 v3 r6 v7 a_91 x_92 (-2 : Int32))
  · refine S_aload (pc := 126) dX4_append_126 rfl ?_
    refine S_gI (pc := 128) fl_X4_59 rfl dX4_append_128 (fun x_93 => ?_)
    refine S_goto (pc := 131) (tgt := 136) dX4_append_131 (by decide) ?_
    exact (sX4_append_136 r0 v3 r6 v7 a_91 x_92 x_93)
theorem sX4_append_10  (r0 : Nat) (v1 : Int32) (v2 : Int32) (v3 : Int32) (v4 : Int32) (v5 : Int32) (r6 : Nat) (s0 : Int32) : Sm mX4_append rV 0 0 10 [some (.ref r0), some (.int v1), some (.int v2), some (.int v3), some (.int v4), some (.int v5), some (.ref r6), none] [.int s0] (fX4_append_10 r0 v1 v2 v3 v4 v5 r6 s0) := by
  unfold fX4_append_10
  refine Z_istore (pc := 10) (lv' := [some (.ref r0), some (.int v1), some (.int v2), some (.int v3), some (.int v4), some (.int v5), some (.ref r6), some (.int s0)]) dX4_append_10 rfl rfl rfl ?_
  refine S_aload_n (pc := 12) dX4_append_12 rfl ?_
  refine S_gP (pc := 13) fl_X4_25 rfl dX4_append_13 (fun a_94 => ?_)
  refine S_aload_n (pc := 16) dX4_append_16 rfl ?_
  refine S_gI (pc := 17) fl_X4_9 rfl dX4_append_17 (fun x_95 => ?_)
  refine S_iload_n (pc := 20) dX4_append_20 rfl ?_
  refine S_stI (pc := 21) dX4_append_21 ?_
  refine S_aload_n (pc := 22) dX4_append_22 rfl ?_
  refine S_gP (pc := 23) fl_X4_28 rfl dX4_append_23 (fun a_96 => ?_)
  refine S_aload_n (pc := 26) dX4_append_26 rfl ?_
  refine S_gI (pc := 27) fl_X4_9 rfl dX4_append_27 (fun x_97 => ?_)
  refine S_iload_n (pc := 30) dX4_append_30 rfl ?_
  refine S_stI (pc := 31) dX4_append_31 ?_
  refine S_aload_n (pc := 32) dX4_append_32 rfl ?_
  refine S_gP (pc := 33) fl_X4_31 rfl dX4_append_33 (fun a_98 => ?_)
  refine S_aload_n (pc := 36) dX4_append_36 rfl ?_
  refine S_gI (pc := 37) fl_X4_9 rfl dX4_append_37 (fun x_99 => ?_)
  refine S_iload_n (pc := 40) dX4_append_40 rfl ?_
  refine S_stI (pc := 41) dX4_append_41 ?_
  refine S_aload_n (pc := 42) dX4_append_42 rfl ?_
  refine S_gP (pc := 43) fl_X4_15 rfl dX4_append_43 (fun a_100 => ?_)
  refine S_aload_n (pc := 46) dX4_append_46 rfl ?_
  refine S_gI (pc := 47) fl_X4_9 rfl dX4_append_47 (fun x_101 => ?_)
  refine S_iload (pc := 50) dX4_append_50 rfl ?_
  refine S_stI (pc := 52) dX4_append_52 ?_
  refine S_aload_n (pc := 53) dX4_append_53 rfl ?_
  refine S_gP (pc := 54) fl_X4_19 rfl dX4_append_54 (fun a_102 => ?_)
  refine S_aload_n (pc := 57) dX4_append_57 rfl ?_
  refine S_gI (pc := 58) fl_X4_9 rfl dX4_append_58 (fun x_103 => ?_)
  refine S_iload (pc := 61) dX4_append_61 rfl ?_
  refine S_stI (pc := 63) dX4_append_63 ?_
  refine S_aload_n (pc := 64) dX4_append_64 rfl ?_
  refine S_gP (pc := 65) fl_X4_22 rfl dX4_append_65 (fun a_104 => ?_)
  refine S_aload_n (pc := 68) dX4_append_68 rfl ?_
  refine S_gI (pc := 69) fl_X4_9 rfl dX4_append_69 (fun x_105 => ?_)
  refine S_bipush (pc := 72) (v := (-2 : Int32)) dX4_append_72 kB_m2 ?_
  refine S_stI (pc := 74) dX4_append_74 ?_
  refine S_aload_n (pc := 75) dX4_append_75 rfl ?_
  refine S_gP (pc := 76) fl_X4_34 rfl dX4_append_76 (fun a_106 => ?_)
  refine S_aload_n (pc := 79) dX4_append_79 rfl ?_
  refine S_gI (pc := 80) fl_X4_9 rfl dX4_append_80 (fun x_107 => ?_)
  refine S_aload (pc := 83) dX4_append_83 rfl ?_
  refine S_gI (pc := 85) fl_X4_52 rfl dX4_append_85 (fun x_108 => ?_)
  refine S_stI (pc := 88) dX4_append_88 ?_
  refine S_aload_n (pc := 89) dX4_append_89 rfl ?_
  refine S_gP (pc := 90) fl_X4_37 rfl dX4_append_90 (fun a_109 => ?_)
  refine S_aload_n (pc := 93) dX4_append_93 rfl ?_
  refine S_gI (pc := 94) fl_X4_9 rfl dX4_append_94 (fun x_110 => ?_)
  refine S_iload (pc := 97) dX4_append_97 rfl ?_
  refine S_ifeq (pc := 99) (tgt := 110) dX4_append_99 (by decide) ?_ ?_
  · refine S_bipush (pc := 110) (v := (-2 : Int32)) dX4_append_110 kB_m2 ?_
    exact (S_lv (lv0 := [some (.ref r0), none, none, some (.int v3), none, none, some (.ref r6), some (.int s0)]) (And.intro rfl (And.intro rfl (And.intro rfl (And.intro rfl trivial)))) (sX4_append_112 r0 v3 r6 s0 a_109 x_110 (-2 : Int32)))
  · refine S_aload (pc := 102) dX4_append_102 rfl ?_
    refine S_gI (pc := 104) fl_X4_57 rfl dX4_append_104 (fun x_111 => ?_)
    refine S_goto (pc := 107) (tgt := 112) dX4_append_107 (by decide) ?_
    exact (S_lv (lv0 := [some (.ref r0), none, none, some (.int v3), none, none, some (.ref r6), some (.int s0)]) (And.intro rfl (And.intro rfl (And.intro rfl (And.intro rfl trivial)))) (sX4_append_112 r0 v3 r6 s0 a_109 x_110 x_111))
theorem sX4_append  (r0 : Nat) (v1 : Int32) (v2 : Int32) (v3 : Int32) (v4 : Int32) (v5 : Int32) (r6 : Nat) : Sm mX4_append rV 0 0 0 [some (.ref r0), some (.int v1), some (.int v2), some (.int v3), some (.int v4), some (.int v5), some (.ref r6), none] [] (fX4_append r0 v1 v2 v3 v4 v5 r6) := by
  unfold fX4_append
  refine S_iload_n (pc := 0) dX4_append_0 rfl ?_
  refine S_iconst (pc := 1) (v := (nI 1)) dX4_append_1 kI_1 ?_
  refine S_icmpne (pc := 2) (tgt := 9) dX4_append_2 (by decide) ?_ ?_
  · refine S_iconst (pc := 9) (v := (nI 0)) dX4_append_9 kI_0 ?_
    exact (sX4_append_10 r0 v1 v2 v3 v4 v5 r6 (nI 0))
  · refine S_iconst (pc := 5) (v := (nI 1)) dX4_append_5 kI_1 ?_
    refine S_goto (pc := 6) (tgt := 10) dX4_append_6 (by decide) ?_
    exact (sX4_append_10 r0 v1 v2 v3 v4 v5 r6 (nI 1))
theorem ktX4_append (r0 : Nat) (v1 : Int32) (v2 : Int32) (v3 : Int32) (v4 : Int32) (v5 : Int32) (r6 : Nat) : Ct mX4_append rV [.ref r0, .int v1, .int v2, .int v3, .int v4, .int v5, .ref r6] (fX4_append r0 v1 v2 v3 v4 v5 r6) := Ct.of (z := 1) pn_X4 rfl rfl rfl (sX4_append r0 v1 v2 v3 v4 v5 r6)
def mX4_moveRow : MI := (yX4_moveRow, cX4_moveRow, 3, none, { frames := 0, cells := 0, slots := 0, locals := 0 }, [])
theorem mw_X4_moveRow : MW mX4_moveRow 2 := ⟨w842, w4, ⟨by decide, by decide⟩, by decide +kernel⟩
theorem mv_X4_moveRow : MV mX4_moveRow 4 := ⟨_, rfl, w841, wp27⟩
def fX4_moveRow  (r0 : Nat) (v1 : Int32) (v2 : Int32) : AH → Option (Unit × AH) := fun h =>
  (gP 4 r0 1 h).bind fun a_37 =>
  (gP 4 r0 1 h).bind fun a_38 =>
  (ldI a_38 v1 h).bind fun x_39 =>
  (stI a_37 v2 x_39 h).bind fun h =>
  (gP 4 r0 2 h).bind fun a_40 =>
  (gP 4 r0 2 h).bind fun a_41 =>
  (ldI a_41 v1 h).bind fun x_42 =>
  (stI a_40 v2 x_42 h).bind fun h =>
  (gP 4 r0 3 h).bind fun a_43 =>
  (gP 4 r0 3 h).bind fun a_44 =>
  (ldI a_44 v1 h).bind fun x_45 =>
  (stI a_43 v2 x_45 h).bind fun h =>
  (gP 4 r0 4 h).bind fun a_46 =>
  (gP 4 r0 4 h).bind fun a_47 =>
  (ldI a_47 v1 h).bind fun x_48 =>
  (stI a_46 v2 x_48 h).bind fun h =>
  (gP 4 r0 5 h).bind fun a_49 =>
  (gP 4 r0 5 h).bind fun a_50 =>
  (ldI a_50 v1 h).bind fun x_51 =>
  (stI a_49 v2 x_51 h).bind fun h =>
  (gP 4 r0 6 h).bind fun a_52 =>
  (gP 4 r0 6 h).bind fun a_53 =>
  (ldI a_53 v1 h).bind fun x_54 =>
  (stI a_52 v2 x_54 h).bind fun h =>
  (gP 4 r0 7 h).bind fun a_55 =>
  (gP 4 r0 7 h).bind fun a_56 =>
  (ldI a_56 v1 h).bind fun x_57 =>
  (stI a_55 v2 x_57 h).bind fun h =>
  (gP 4 r0 8 h).bind fun a_58 =>
  (gP 4 r0 8 h).bind fun a_59 =>
  (ldI a_59 v1 h).bind fun x_60 =>
  (stI a_58 v2 x_60 h).bind fun h =>
  (gP 4 r0 9 h).bind fun a_61 =>
  (gP 4 r0 9 h).bind fun a_62 =>
  (ldI a_62 v1 h).bind fun x_63 =>
  (stI a_61 v2 x_63 h).bind fun h =>
  (gP 4 r0 10 h).bind fun a_64 =>
  (gP 4 r0 10 h).bind fun a_65 =>
  (ldI a_65 v1 h).bind fun x_66 =>
  (stI a_64 v2 x_66 h).bind fun h =>
  (gP 4 r0 11 h).bind fun a_67 =>
  (gP 4 r0 11 h).bind fun a_68 =>
  (ldI a_68 v1 h).bind fun x_69 =>
  (stI a_67 v2 x_69 h).bind fun h =>
  (gP 4 r0 12 h).bind fun a_70 =>
  (gP 4 r0 12 h).bind fun a_71 =>
  (ldI a_71 v1 h).bind fun x_72 =>
  (stI a_70 v2 x_72 h).bind fun h =>
  some ((), h)
theorem sX4_moveRow  (r0 : Nat) (v1 : Int32) (v2 : Int32) : Sm mX4_moveRow rV 0 0 0 [some (.ref r0), some (.int v1), some (.int v2)] [] (fX4_moveRow r0 v1 v2) := by
  unfold fX4_moveRow
  refine S_aload_n (pc := 0) dX4_moveRow_0 rfl ?_
  refine S_gP (pc := 1) fl_X4_15 rfl dX4_moveRow_1 (fun a_37 => ?_)
  refine S_iload_n (pc := 4) dX4_moveRow_4 rfl ?_
  refine S_aload_n (pc := 5) dX4_moveRow_5 rfl ?_
  refine S_gP (pc := 6) fl_X4_15 rfl dX4_moveRow_6 (fun a_38 => ?_)
  refine S_iload_n (pc := 9) dX4_moveRow_9 rfl ?_
  refine S_ldI (pc := 10) dX4_moveRow_10 (fun x_39 => ?_)
  refine S_stI (pc := 11) dX4_moveRow_11 ?_
  refine S_aload_n (pc := 12) dX4_moveRow_12 rfl ?_
  refine S_gP (pc := 13) fl_X4_19 rfl dX4_moveRow_13 (fun a_40 => ?_)
  refine S_iload_n (pc := 16) dX4_moveRow_16 rfl ?_
  refine S_aload_n (pc := 17) dX4_moveRow_17 rfl ?_
  refine S_gP (pc := 18) fl_X4_19 rfl dX4_moveRow_18 (fun a_41 => ?_)
  refine S_iload_n (pc := 21) dX4_moveRow_21 rfl ?_
  refine S_ldI (pc := 22) dX4_moveRow_22 (fun x_42 => ?_)
  refine S_stI (pc := 23) dX4_moveRow_23 ?_
  refine S_aload_n (pc := 24) dX4_moveRow_24 rfl ?_
  refine S_gP (pc := 25) fl_X4_22 rfl dX4_moveRow_25 (fun a_43 => ?_)
  refine S_iload_n (pc := 28) dX4_moveRow_28 rfl ?_
  refine S_aload_n (pc := 29) dX4_moveRow_29 rfl ?_
  refine S_gP (pc := 30) fl_X4_22 rfl dX4_moveRow_30 (fun a_44 => ?_)
  refine S_iload_n (pc := 33) dX4_moveRow_33 rfl ?_
  refine S_ldI (pc := 34) dX4_moveRow_34 (fun x_45 => ?_)
  refine S_stI (pc := 35) dX4_moveRow_35 ?_
  refine S_aload_n (pc := 36) dX4_moveRow_36 rfl ?_
  refine S_gP (pc := 37) fl_X4_25 rfl dX4_moveRow_37 (fun a_46 => ?_)
  refine S_iload_n (pc := 40) dX4_moveRow_40 rfl ?_
  refine S_aload_n (pc := 41) dX4_moveRow_41 rfl ?_
  refine S_gP (pc := 42) fl_X4_25 rfl dX4_moveRow_42 (fun a_47 => ?_)
  refine S_iload_n (pc := 45) dX4_moveRow_45 rfl ?_
  refine S_ldI (pc := 46) dX4_moveRow_46 (fun x_48 => ?_)
  refine S_stI (pc := 47) dX4_moveRow_47 ?_
  refine S_aload_n (pc := 48) dX4_moveRow_48 rfl ?_
  refine S_gP (pc := 49) fl_X4_28 rfl dX4_moveRow_49 (fun a_49 => ?_)
  refine S_iload_n (pc := 52) dX4_moveRow_52 rfl ?_
  refine S_aload_n (pc := 53) dX4_moveRow_53 rfl ?_
  refine S_gP (pc := 54) fl_X4_28 rfl dX4_moveRow_54 (fun a_50 => ?_)
  refine S_iload_n (pc := 57) dX4_moveRow_57 rfl ?_
  refine S_ldI (pc := 58) dX4_moveRow_58 (fun x_51 => ?_)
  refine S_stI (pc := 59) dX4_moveRow_59 ?_
  refine S_aload_n (pc := 60) dX4_moveRow_60 rfl ?_
  refine S_gP (pc := 61) fl_X4_31 rfl dX4_moveRow_61 (fun a_52 => ?_)
  refine S_iload_n (pc := 64) dX4_moveRow_64 rfl ?_
  refine S_aload_n (pc := 65) dX4_moveRow_65 rfl ?_
  refine S_gP (pc := 66) fl_X4_31 rfl dX4_moveRow_66 (fun a_53 => ?_)
  refine S_iload_n (pc := 69) dX4_moveRow_69 rfl ?_
  refine S_ldI (pc := 70) dX4_moveRow_70 (fun x_54 => ?_)
  refine S_stI (pc := 71) dX4_moveRow_71 ?_
  refine S_aload_n (pc := 72) dX4_moveRow_72 rfl ?_
  refine S_gP (pc := 73) fl_X4_34 rfl dX4_moveRow_73 (fun a_55 => ?_)
  refine S_iload_n (pc := 76) dX4_moveRow_76 rfl ?_
  refine S_aload_n (pc := 77) dX4_moveRow_77 rfl ?_
  refine S_gP (pc := 78) fl_X4_34 rfl dX4_moveRow_78 (fun a_56 => ?_)
  refine S_iload_n (pc := 81) dX4_moveRow_81 rfl ?_
  refine S_ldI (pc := 82) dX4_moveRow_82 (fun x_57 => ?_)
  refine S_stI (pc := 83) dX4_moveRow_83 ?_
  refine S_aload_n (pc := 84) dX4_moveRow_84 rfl ?_
  refine S_gP (pc := 85) fl_X4_37 rfl dX4_moveRow_85 (fun a_58 => ?_)
  refine S_iload_n (pc := 88) dX4_moveRow_88 rfl ?_
  refine S_aload_n (pc := 89) dX4_moveRow_89 rfl ?_
  refine S_gP (pc := 90) fl_X4_37 rfl dX4_moveRow_90 (fun a_59 => ?_)
  refine S_iload_n (pc := 93) dX4_moveRow_93 rfl ?_
  refine S_ldI (pc := 94) dX4_moveRow_94 (fun x_60 => ?_)
  refine S_stI (pc := 95) dX4_moveRow_95 ?_
  refine S_aload_n (pc := 96) dX4_moveRow_96 rfl ?_
  refine S_gP (pc := 97) fl_X4_40 rfl dX4_moveRow_97 (fun a_61 => ?_)
  refine S_iload_n (pc := 100) dX4_moveRow_100 rfl ?_
  refine S_aload_n (pc := 101) dX4_moveRow_101 rfl ?_
  refine S_gP (pc := 102) fl_X4_40 rfl dX4_moveRow_102 (fun a_62 => ?_)
  refine S_iload_n (pc := 105) dX4_moveRow_105 rfl ?_
  refine S_ldI (pc := 106) dX4_moveRow_106 (fun x_63 => ?_)
  refine S_stI (pc := 107) dX4_moveRow_107 ?_
  refine S_aload_n (pc := 108) dX4_moveRow_108 rfl ?_
  refine S_gP (pc := 109) fl_X4_43 rfl dX4_moveRow_109 (fun a_64 => ?_)
  refine S_iload_n (pc := 112) dX4_moveRow_112 rfl ?_
  refine S_aload_n (pc := 113) dX4_moveRow_113 rfl ?_
  refine S_gP (pc := 114) fl_X4_43 rfl dX4_moveRow_114 (fun a_65 => ?_)
  refine S_iload_n (pc := 117) dX4_moveRow_117 rfl ?_
  refine S_ldI (pc := 118) dX4_moveRow_118 (fun x_66 => ?_)
  refine S_stI (pc := 119) dX4_moveRow_119 ?_
  refine S_aload_n (pc := 120) dX4_moveRow_120 rfl ?_
  refine S_gP (pc := 121) fl_X4_46 rfl dX4_moveRow_121 (fun a_67 => ?_)
  refine S_iload_n (pc := 124) dX4_moveRow_124 rfl ?_
  refine S_aload_n (pc := 125) dX4_moveRow_125 rfl ?_
  refine S_gP (pc := 126) fl_X4_46 rfl dX4_moveRow_126 (fun a_68 => ?_)
  refine S_iload_n (pc := 129) dX4_moveRow_129 rfl ?_
  refine S_ldI (pc := 130) dX4_moveRow_130 (fun x_69 => ?_)
  refine S_stI (pc := 131) dX4_moveRow_131 ?_
  refine S_aload_n (pc := 132) dX4_moveRow_132 rfl ?_
  refine S_gP (pc := 133) fl_X4_49 rfl dX4_moveRow_133 (fun a_70 => ?_)
  refine S_iload_n (pc := 136) dX4_moveRow_136 rfl ?_
  refine S_aload_n (pc := 137) dX4_moveRow_137 rfl ?_
  refine S_gP (pc := 138) fl_X4_49 rfl dX4_moveRow_138 (fun a_71 => ?_)
  refine S_iload_n (pc := 141) dX4_moveRow_141 rfl ?_
  refine S_ldI (pc := 142) dX4_moveRow_142 (fun x_72 => ?_)
  refine S_stI (pc := 143) dX4_moveRow_143 ?_
  exact S_vret (pc := 144) ⟨rfl, rfl⟩ rfl rfl dX4_moveRow_144
theorem ktX4_moveRow (r0 : Nat) (v1 : Int32) (v2 : Int32) : Ct mX4_moveRow rV [.ref r0, .int v1, .int v2] (fX4_moveRow r0 v1 v2) := Ct.of (z := 0) pn_X4 rfl rfl rfl (sX4_moveRow r0 v1 v2)
def mX4_dropAllOf : MI := (yX4_dropAllOf, cX4_dropAllOf, 4, (some .int), { frames := 1, cells := 0, slots := 0, locals := 22 }, [])
theorem mw_X4_dropAllOf : MW mX4_dropAllOf 1 := ⟨w838, w4, ⟨by decide, by decide⟩, by decide +kernel⟩
theorem mv_X4_dropAllOf : MV mX4_dropAllOf 4 := ⟨_, rfl, w836, w837⟩
def fX4_dropAllOf_31 (k4 : Nat → Int32 → Int32 → Int32 → AH → Option (Int32 × AH)) (r0 : Nat) (v1 : Int32) (v2 : Int32) (v3 : Int32) : AH → Option (Int32 × AH) := fun h =>
  k4 r0 v1 v2 (v3 + (nI 1)) h
def bX4_dropAllOf_4  (k4 : Nat → Int32 → Int32 → Int32 → AH → Option (Int32 × AH)) (r0 : Nat) (v1 : Int32) (v2 : Int32) (v3 : Int32) : AH → Option (Int32 × AH) := fun h =>
  (gI 4 r0 0 h).bind fun x_9 =>
  if x_9 ≤ v3 then (
    (gI 4 r0 0 h).bind fun x_10 =>
    (pI 4 r0 0 v2 h).bind fun h =>
    some ((x_10 - v2), h))
  else
  (gP 4 r0 5 h).bind fun a_11 =>
  (ldI a_11 v3 h).bind fun x_12 =>
  if x_12 = v1 then (
    fX4_dropAllOf_31 k4 r0 v1 v2 v3 h)
  else
  cv 4 r0 (fX4_moveRow r0 v3 v2) h fun _ h =>
  fX4_dropAllOf_31 k4 r0 v1 (v2 + (nI 1)) v3 h
def lX4_dropAllOf_4  : Nat → Nat → Int32 → Int32 → Int32 → AH → Option (Int32 × AH)
  | 0 => fun _ _ _ _ _ => none
  | n + 1 => bX4_dropAllOf_4 (lX4_dropAllOf_4 n)
def fX4_dropAllOf  (r0 : Nat) (v1 : Int32) : AH → Option (Int32 × AH) := fun h =>
  lX4_dropAllOf_4 fuel r0 v1 (nI 0) (nI 0) h
theorem sX4_dropAllOf_31 {k4 : Nat → Int32 → Int32 → Int32 → AH → Option (Int32 × AH)} (h4 : ∀ (r0 : Nat) (v1 : Int32) (v2 : Int32) (v3 : Int32), Sm mX4_dropAllOf rI 0 0 4 [some (.ref r0), some (.int v1), some (.int v2), some (.int v3)] [] (k4 r0 v1 v2 v3)) (r0 : Nat) (v1 : Int32) (v2 : Int32) (v3 : Int32) : Sm mX4_dropAllOf rI 0 0 31 [some (.ref r0), some (.int v1), some (.int v2), some (.int v3)] [] (fX4_dropAllOf_31 k4 r0 v1 v2 v3) := by
  unfold fX4_dropAllOf_31
  refine Z_iinc (pc := 31) (v := (nI 1)) (lv' := [some (.ref r0), some (.int v1), some (.int v2), some (.int (v3 + (nI 1)))]) dX4_dropAllOf_31 rfl kI_1 rfl rfl rfl ?_
  refine S_goto (pc := 34) (tgt := 4) dX4_dropAllOf_34 (by decide) ?_
  exact (h4 r0 v1 v2 (v3 + (nI 1)))
theorem sbX4_dropAllOf_4  {k4 : Nat → Int32 → Int32 → Int32 → AH → Option (Int32 × AH)} (h4 : ∀ (r0 : Nat) (v1 : Int32) (v2 : Int32) (v3 : Int32), Sm mX4_dropAllOf rI 0 0 4 [some (.ref r0), some (.int v1), some (.int v2), some (.int v3)] [] (k4 r0 v1 v2 v3)) (r0 : Nat) (v1 : Int32) (v2 : Int32) (v3 : Int32) : Sm mX4_dropAllOf rI 0 0 4 [some (.ref r0), some (.int v1), some (.int v2), some (.int v3)] [] (bX4_dropAllOf_4 k4 r0 v1 v2 v3) := by
  unfold bX4_dropAllOf_4
  refine S_iload_n (pc := 4) dX4_dropAllOf_4 rfl ?_
  refine S_aload_n (pc := 5) dX4_dropAllOf_5 rfl ?_
  refine S_gI (pc := 6) fl_X4_9 rfl dX4_dropAllOf_6 (fun x_9 => ?_)
  refine S_icmpge (pc := 9) (tgt := 37) dX4_dropAllOf_9 (by decide) ?_ ?_
  · refine S_aload_n (pc := 37) dX4_dropAllOf_37 rfl ?_
    refine S_gI (pc := 38) fl_X4_9 rfl dX4_dropAllOf_38 (fun x_10 => ?_)
    refine S_iload_n (pc := 41) dX4_dropAllOf_41 rfl ?_
    refine S_isub (pc := 42) dX4_dropAllOf_42 ?_
    refine Z_istore_n (pc := 43) (lv' := [some (.ref r0), some (.int v1), some (.int v2), some (.int (x_10 - v2))]) dX4_dropAllOf_43 rfl rfl rfl ?_
    refine S_aload_n (pc := 44) dX4_dropAllOf_44 rfl ?_
    refine S_iload_n (pc := 45) dX4_dropAllOf_45 rfl ?_
    refine S_pI (pc := 46) fl_X4_9 rfl rfl dX4_dropAllOf_46 ?_
    refine S_iload_n (pc := 49) dX4_dropAllOf_49 rfl ?_
    exact S_iret (pc := 50) ⟨rfl, rfl⟩ rfl rfl dX4_dropAllOf_50
  · refine S_aload_n (pc := 12) dX4_dropAllOf_12 rfl ?_
    refine S_gP (pc := 13) fl_X4_28 rfl dX4_dropAllOf_13 (fun a_11 => ?_)
    refine S_iload_n (pc := 16) dX4_dropAllOf_16 rfl ?_
    refine S_ldI (pc := 17) dX4_dropAllOf_17 (fun x_12 => ?_)
    refine S_iload_n (pc := 18) dX4_dropAllOf_18 rfl ?_
    refine S_icmpeq (pc := 19) (tgt := 31) dX4_dropAllOf_19 (by decide) ?_ ?_
    · exact (sX4_dropAllOf_31 h4 r0 v1 v2 v3)
    · refine S_aload_n (pc := 22) dX4_dropAllOf_22 rfl ?_
      refine S_iload_n (pc := 23) dX4_dropAllOf_23 rfl ?_
      refine S_iload_n (pc := 24) dX4_dropAllOf_24 rfl ?_
      refine Y_Vv (pc := 25) (st := []) (kc' := 0) (ks' := 0) (ktX4_moveRow r0 v3 v2) mw_X4_moveRow mv_X4_moveRow w839 (RO.mk rfl rfl rfl rfl) rfl rfl rfl dX4_dropAllOf_25 ⟨rfl, rfl⟩ ?_
      refine Z_iinc (pc := 28) (v := (nI 1)) (lv' := [some (.ref r0), some (.int v1), some (.int (v2 + (nI 1))), some (.int v3)]) dX4_dropAllOf_28 rfl kI_1 rfl rfl rfl ?_
      exact (sX4_dropAllOf_31 h4 r0 v1 (v2 + (nI 1)) v3)
theorem sX4_dropAllOf_4  : ∀ (n : Nat) (r0 : Nat) (v1 : Int32) (v2 : Int32) (v3 : Int32), Sm mX4_dropAllOf rI 0 0 4 [some (.ref r0), some (.int v1), some (.int v2), some (.int v3)] [] (lX4_dropAllOf_4 n r0 v1 v2 v3)
  | 0, _, _, _, _ => S_none
  | n + 1, r0, v1, v2, v3 => sbX4_dropAllOf_4 (sX4_dropAllOf_4 n) r0 v1 v2 v3
theorem sX4_dropAllOf  (r0 : Nat) (v1 : Int32) : Sm mX4_dropAllOf rI 0 0 0 [some (.ref r0), some (.int v1), none, none] [] (fX4_dropAllOf r0 v1) := by
  unfold fX4_dropAllOf
  refine S_iconst (pc := 0) (v := (nI 0)) dX4_dropAllOf_0 kI_0 ?_
  refine Z_istore_n (pc := 1) (lv' := [some (.ref r0), some (.int v1), some (.int (nI 0)), none]) dX4_dropAllOf_1 rfl rfl rfl ?_
  refine S_iconst (pc := 2) (v := (nI 0)) dX4_dropAllOf_2 kI_0 ?_
  refine Z_istore_n (pc := 3) (lv' := [some (.ref r0), some (.int v1), some (.int (nI 0)), some (.int (nI 0))]) dX4_dropAllOf_3 rfl rfl rfl ?_
  exact (sX4_dropAllOf_4 fuel r0 v1 (nI 0) (nI 0))
theorem ktX4_dropAllOf (r0 : Nat) (v1 : Int32) : Ct mX4_dropAllOf rI [.ref r0, .int v1] (fX4_dropAllOf r0 v1) := Ct.of (z := 2) pn_X4 rfl rfl rfl (sX4_dropAllOf r0 v1)
def mX4_dropAt : MI := (yX4_dropAt, cX4_dropAt, 3, none, { frames := 1, cells := 0, slots := 0, locals := 22 }, [])
theorem mw_X4_dropAt : MW mX4_dropAt 1 := ⟨w960, w4, ⟨by decide, by decide⟩, by decide +kernel⟩
theorem mv_X4_dropAt : MV mX4_dropAt 4 := ⟨_, rfl, w958, w959⟩
def bX4_dropAt_2  (k2 : Nat → Int32 → AH → Option (Unit × AH)) (r0 : Nat) (v2 : Int32) : AH → Option (Unit × AH) := fun h =>
  (gI 4 r0 0 h).bind fun x_5 =>
  if x_5 ≤ (v2 + (nI 1)) then (
    (gI 4 r0 0 h).bind fun x_6 =>
    (pI 4 r0 0 (x_6 - (nI 1)) h).bind fun h =>
    some ((), h))
  else
  cv 4 r0 (fX4_moveRow r0 (v2 + (nI 1)) v2) h fun _ h =>
  k2 r0 (v2 + (nI 1)) h
def lX4_dropAt_2  : Nat → Nat → Int32 → AH → Option (Unit × AH)
  | 0 => fun _ _ _ => none
  | n + 1 => bX4_dropAt_2 (lX4_dropAt_2 n)
def fX4_dropAt  (r0 : Nat) (v1 : Int32) : AH → Option (Unit × AH) := fun h =>
  lX4_dropAt_2 fuel r0 v1 h
theorem sbX4_dropAt_2  {k2 : Nat → Int32 → AH → Option (Unit × AH)} (h2 : ∀ (r0 : Nat) (v2 : Int32), Sm mX4_dropAt rV 0 0 2 [some (.ref r0), none, some (.int v2)] [] (k2 r0 v2)) (r0 : Nat) (v2 : Int32) : Sm mX4_dropAt rV 0 0 2 [some (.ref r0), none, some (.int v2)] [] (bX4_dropAt_2 k2 r0 v2) := by
  unfold bX4_dropAt_2
  refine S_iload_n (pc := 2) dX4_dropAt_2 rfl ?_
  refine S_iconst (pc := 3) (v := (nI 1)) dX4_dropAt_3 kI_1 ?_
  refine S_iadd (pc := 4) dX4_dropAt_4 ?_
  refine S_aload_n (pc := 5) dX4_dropAt_5 rfl ?_
  refine S_gI (pc := 6) fl_X4_9 rfl dX4_dropAt_6 (fun x_5 => ?_)
  refine S_icmpge (pc := 9) (tgt := 26) dX4_dropAt_9 (by decide) ?_ ?_
  · refine S_aload_n (pc := 26) dX4_dropAt_26 rfl ?_
    refine S_dup (pc := 27) rfl dX4_dropAt_27 ?_
    refine S_gI (pc := 28) fl_X4_9 rfl dX4_dropAt_28 (fun x_6 => ?_)
    refine S_iconst (pc := 31) (v := (nI 1)) dX4_dropAt_31 kI_1 ?_
    refine S_isub (pc := 32) dX4_dropAt_32 ?_
    refine S_pI (pc := 33) fl_X4_9 rfl rfl dX4_dropAt_33 ?_
    exact S_vret (pc := 36) ⟨rfl, rfl⟩ rfl rfl dX4_dropAt_36
  · refine S_aload_n (pc := 12) dX4_dropAt_12 rfl ?_
    refine S_iload_n (pc := 13) dX4_dropAt_13 rfl ?_
    refine S_iconst (pc := 14) (v := (nI 1)) dX4_dropAt_14 kI_1 ?_
    refine S_iadd (pc := 15) dX4_dropAt_15 ?_
    refine S_iload_n (pc := 16) dX4_dropAt_16 rfl ?_
    refine Y_Vv (pc := 17) (st := []) (kc' := 0) (ks' := 0) (ktX4_moveRow r0 (v2 + (nI 1)) v2) mw_X4_moveRow mv_X4_moveRow w839 (RO.mk rfl rfl rfl rfl) rfl rfl rfl dX4_dropAt_17 ⟨rfl, rfl⟩ ?_
    refine Z_iinc (pc := 20) (v := (nI 1)) (lv' := [some (.ref r0), none, some (.int (v2 + (nI 1)))]) dX4_dropAt_20 rfl kI_1 rfl rfl rfl ?_
    refine S_goto (pc := 23) (tgt := 2) dX4_dropAt_23 (by decide) ?_
    exact (h2 r0 (v2 + (nI 1)))
theorem sX4_dropAt_2  : ∀ (n : Nat) (r0 : Nat) (v2 : Int32), Sm mX4_dropAt rV 0 0 2 [some (.ref r0), none, some (.int v2)] [] (lX4_dropAt_2 n r0 v2)
  | 0, _, _ => S_none
  | n + 1, r0, v2 => sbX4_dropAt_2 (sX4_dropAt_2 n) r0 v2
theorem sX4_dropAt  (r0 : Nat) (v1 : Int32) : Sm mX4_dropAt rV 0 0 0 [some (.ref r0), some (.int v1), none] [] (fX4_dropAt r0 v1) := by
  unfold fX4_dropAt
  refine S_iload_n (pc := 0) dX4_dropAt_0 rfl ?_
  refine Z_istore_n (pc := 1) (lv' := [some (.ref r0), some (.int v1), some (.int v1)]) dX4_dropAt_1 rfl rfl rfl ?_
  exact (S_lv (lv0 := [some (.ref r0), none, some (.int v1)]) (And.intro rfl (And.intro rfl trivial)) (sX4_dropAt_2 fuel r0 v1))
theorem ktX4_dropAt (r0 : Nat) (v1 : Int32) : Ct mX4_dropAt rV [.ref r0, .int v1] (fX4_dropAt r0 v1) := Ct.of (z := 1) pn_X4 rfl rfl rfl (sX4_dropAt r0 v1)
def mX4_hasAbstract : MI := (yX4_hasAbstract, cX4_hasAbstract, 3, (some .boolean), { frames := 1, cells := 0, slots := 0, locals := 21 }, [])
theorem mw_X4_hasAbstract : MW mX4_hasAbstract 1 := ⟨w861, w4, ⟨by decide, by decide⟩, by decide +kernel⟩
theorem mv_X4_hasAbstract : MV mX4_hasAbstract 4 := ⟨_, rfl, w859, w860⟩
def fX4_hasAbstract_30 (k2 : Nat → Int32 → Int32 → AH → Option (Int32 × AH)) (r0 : Nat) (v1 : Int32) (v2 : Int32) : AH → Option (Int32 × AH) := fun h =>
  k2 r0 v1 (v2 + (nI 1)) h
def bX4_hasAbstract_2  (k2 : Nat → Int32 → Int32 → AH → Option (Int32 × AH)) (r0 : Nat) (v1 : Int32) (v2 : Int32) : AH → Option (Int32 × AH) := fun h =>
  (gI 4 r0 0 h).bind fun x_9 =>
  if x_9 ≤ v2 then (
    rz (nI 0) (nI 0) h)
  else
  (gP 4 r0 5 h).bind fun a_10 =>
  (ldI a_10 v2 h).bind fun x_11 =>
  if x_11 = v1 then (
    cv 4 r0 (fX4_isAbstract r0 v2) h fun x_12 h =>
    if x_12 = 0 then (
      fX4_hasAbstract_30 k2 r0 v1 v2 h)
    else
    rz (nI 1) (nI 1) h)
  else
  fX4_hasAbstract_30 k2 r0 v1 v2 h
def lX4_hasAbstract_2  : Nat → Nat → Int32 → Int32 → AH → Option (Int32 × AH)
  | 0 => fun _ _ _ _ => none
  | n + 1 => bX4_hasAbstract_2 (lX4_hasAbstract_2 n)
def fX4_hasAbstract  (r0 : Nat) (v1 : Int32) : AH → Option (Int32 × AH) := fun h =>
  lX4_hasAbstract_2 fuel r0 v1 (nI 0) h
theorem sX4_hasAbstract_30 {k2 : Nat → Int32 → Int32 → AH → Option (Int32 × AH)} (h2 : ∀ (r0 : Nat) (v1 : Int32) (v2 : Int32), Sm mX4_hasAbstract rI 0 0 2 [some (.ref r0), some (.int v1), some (.int v2)] [] (k2 r0 v1 v2)) (r0 : Nat) (v1 : Int32) (v2 : Int32) : Sm mX4_hasAbstract rI 0 0 30 [some (.ref r0), some (.int v1), some (.int v2)] [] (fX4_hasAbstract_30 k2 r0 v1 v2) := by
  unfold fX4_hasAbstract_30
  refine Z_iinc (pc := 30) (v := (nI 1)) (lv' := [some (.ref r0), some (.int v1), some (.int (v2 + (nI 1)))]) dX4_hasAbstract_30 rfl kI_1 rfl rfl rfl ?_
  refine S_goto (pc := 33) (tgt := 2) dX4_hasAbstract_33 (by decide) ?_
  exact (h2 r0 v1 (v2 + (nI 1)))
theorem sbX4_hasAbstract_2  {k2 : Nat → Int32 → Int32 → AH → Option (Int32 × AH)} (h2 : ∀ (r0 : Nat) (v1 : Int32) (v2 : Int32), Sm mX4_hasAbstract rI 0 0 2 [some (.ref r0), some (.int v1), some (.int v2)] [] (k2 r0 v1 v2)) (r0 : Nat) (v1 : Int32) (v2 : Int32) : Sm mX4_hasAbstract rI 0 0 2 [some (.ref r0), some (.int v1), some (.int v2)] [] (bX4_hasAbstract_2 k2 r0 v1 v2) := by
  unfold bX4_hasAbstract_2
  refine S_iload_n (pc := 2) dX4_hasAbstract_2 rfl ?_
  refine S_aload_n (pc := 3) dX4_hasAbstract_3 rfl ?_
  refine S_gI (pc := 4) fl_X4_9 rfl dX4_hasAbstract_4 (fun x_9 => ?_)
  refine S_icmpge (pc := 7) (tgt := 36) dX4_hasAbstract_7 (by decide) ?_ ?_
  · refine S_iconst (pc := 36) (v := (nI 0)) dX4_hasAbstract_36 kI_0 ?_
    exact S_zret (pc := 37) ⟨rfl, rfl⟩ rfl rfl dX4_hasAbstract_37
  · refine S_aload_n (pc := 10) dX4_hasAbstract_10 rfl ?_
    refine S_gP (pc := 11) fl_X4_28 rfl dX4_hasAbstract_11 (fun a_10 => ?_)
    refine S_iload_n (pc := 14) dX4_hasAbstract_14 rfl ?_
    refine S_ldI (pc := 15) dX4_hasAbstract_15 (fun x_11 => ?_)
    refine S_iload_n (pc := 16) dX4_hasAbstract_16 rfl ?_
    refine S_icmpne (pc := 17) (tgt := 30) dX4_hasAbstract_17 (by decide) ?_ ?_
    · exact (sX4_hasAbstract_30 h2 r0 v1 v2)
    · refine S_aload_n (pc := 20) dX4_hasAbstract_20 rfl ?_
      refine S_iload_n (pc := 21) dX4_hasAbstract_21 rfl ?_
      refine Y_Vi (pc := 22) (st := []) (kc' := 0) (ks' := 0) (ktX4_isAbstract r0 v2) mw_X4_isAbstract mv_X4_isAbstract w862 (RO.mk rfl rfl rfl rfl) rfl rfl rfl dX4_hasAbstract_22 ⟨rfl, rfl⟩ (fun x_12 => ?_)
      refine S_ifeq (pc := 25) (tgt := 30) dX4_hasAbstract_25 (by decide) ?_ ?_
      · exact (sX4_hasAbstract_30 h2 r0 v1 v2)
      · refine S_iconst (pc := 28) (v := (nI 1)) dX4_hasAbstract_28 kI_1 ?_
        exact S_zret (pc := 29) ⟨rfl, rfl⟩ rfl rfl dX4_hasAbstract_29
theorem sX4_hasAbstract_2  : ∀ (n : Nat) (r0 : Nat) (v1 : Int32) (v2 : Int32), Sm mX4_hasAbstract rI 0 0 2 [some (.ref r0), some (.int v1), some (.int v2)] [] (lX4_hasAbstract_2 n r0 v1 v2)
  | 0, _, _, _ => S_none
  | n + 1, r0, v1, v2 => sbX4_hasAbstract_2 (sX4_hasAbstract_2 n) r0 v1 v2
theorem sX4_hasAbstract  (r0 : Nat) (v1 : Int32) : Sm mX4_hasAbstract rI 0 0 0 [some (.ref r0), some (.int v1), none] [] (fX4_hasAbstract r0 v1) := by
  unfold fX4_hasAbstract
  refine S_iconst (pc := 0) (v := (nI 0)) dX4_hasAbstract_0 kI_0 ?_
  refine Z_istore_n (pc := 1) (lv' := [some (.ref r0), some (.int v1), some (.int (nI 0))]) dX4_hasAbstract_1 rfl rfl rfl ?_
  exact (sX4_hasAbstract_2 fuel r0 v1 (nI 0))
theorem ktX4_hasAbstract (r0 : Nat) (v1 : Int32) : Ct mX4_hasAbstract rI [.ref r0, .int v1] (fX4_hasAbstract r0 v1) := Ct.of (z := 1) pn_X4 rfl rfl rfl (sX4_hasAbstract r0 v1)
def mX4_hasField : MI := (yX4_hasField, cX4_hasField, 4, (some .boolean), { frames := 0, cells := 0, slots := 0, locals := 0 }, [])
theorem mw_X4_hasField : MW mX4_hasField 2 := ⟨w916, w4, ⟨by decide, by decide⟩, by decide +kernel⟩
theorem mv_X4_hasField : MV mX4_hasField 4 := ⟨_, rfl, w914, w915⟩
def fX4_hasField_41 (k2 : Nat → Int32 → Int32 → Int32 → AH → Option (Int32 × AH)) (r0 : Nat) (v1 : Int32) (v2 : Int32) (v3 : Int32) : AH → Option (Int32 × AH) := fun h =>
  k2 r0 v1 v2 (v3 + (nI 1)) h
def bX4_hasField_2  (k2 : Nat → Int32 → Int32 → Int32 → AH → Option (Int32 × AH)) (r0 : Nat) (v1 : Int32) (v2 : Int32) (v3 : Int32) : AH → Option (Int32 × AH) := fun h =>
  (gI 4 r0 0 h).bind fun x_15 =>
  if x_15 ≤ v3 then (
    rz (nI 0) (nI 0) h)
  else
  (gP 4 r0 5 h).bind fun a_16 =>
  (ldI a_16 v3 h).bind fun x_17 =>
  if x_17 = v1 then (
    (gP 4 r0 4 h).bind fun a_18 =>
    (ldI a_18 v3 h).bind fun x_19 =>
    if x_19 = 0 then (
      (gP 4 r0 6 h).bind fun a_20 =>
      (ldI a_20 v3 h).bind fun x_21 =>
      if x_21 = v2 then (
        rz (nI 1) (nI 1) h)
      else
      fX4_hasField_41 k2 r0 v1 v2 v3 h)
    else
    fX4_hasField_41 k2 r0 v1 v2 v3 h)
  else
  fX4_hasField_41 k2 r0 v1 v2 v3 h
def lX4_hasField_2  : Nat → Nat → Int32 → Int32 → Int32 → AH → Option (Int32 × AH)
  | 0 => fun _ _ _ _ _ => none
  | n + 1 => bX4_hasField_2 (lX4_hasField_2 n)
def fX4_hasField  (r0 : Nat) (v1 : Int32) (v2 : Int32) : AH → Option (Int32 × AH) := fun h =>
  lX4_hasField_2 fuel r0 v1 v2 (nI 0) h
theorem sX4_hasField_41 {k2 : Nat → Int32 → Int32 → Int32 → AH → Option (Int32 × AH)} (h2 : ∀ (r0 : Nat) (v1 : Int32) (v2 : Int32) (v3 : Int32), Sm mX4_hasField rI 0 0 2 [some (.ref r0), some (.int v1), some (.int v2), some (.int v3)] [] (k2 r0 v1 v2 v3)) (r0 : Nat) (v1 : Int32) (v2 : Int32) (v3 : Int32) : Sm mX4_hasField rI 0 0 41 [some (.ref r0), some (.int v1), some (.int v2), some (.int v3)] [] (fX4_hasField_41 k2 r0 v1 v2 v3) := by
  unfold fX4_hasField_41
  refine Z_iinc (pc := 41) (v := (nI 1)) (lv' := [some (.ref r0), some (.int v1), some (.int v2), some (.int (v3 + (nI 1)))]) dX4_hasField_41 rfl kI_1 rfl rfl rfl ?_
  refine S_goto (pc := 44) (tgt := 2) dX4_hasField_44 (by decide) ?_
  exact (h2 r0 v1 v2 (v3 + (nI 1)))
theorem sbX4_hasField_2  {k2 : Nat → Int32 → Int32 → Int32 → AH → Option (Int32 × AH)} (h2 : ∀ (r0 : Nat) (v1 : Int32) (v2 : Int32) (v3 : Int32), Sm mX4_hasField rI 0 0 2 [some (.ref r0), some (.int v1), some (.int v2), some (.int v3)] [] (k2 r0 v1 v2 v3)) (r0 : Nat) (v1 : Int32) (v2 : Int32) (v3 : Int32) : Sm mX4_hasField rI 0 0 2 [some (.ref r0), some (.int v1), some (.int v2), some (.int v3)] [] (bX4_hasField_2 k2 r0 v1 v2 v3) := by
  unfold bX4_hasField_2
  refine S_iload_n (pc := 2) dX4_hasField_2 rfl ?_
  refine S_aload_n (pc := 3) dX4_hasField_3 rfl ?_
  refine S_gI (pc := 4) fl_X4_9 rfl dX4_hasField_4 (fun x_15 => ?_)
  refine S_icmpge (pc := 7) (tgt := 47) dX4_hasField_7 (by decide) ?_ ?_
  · refine S_iconst (pc := 47) (v := (nI 0)) dX4_hasField_47 kI_0 ?_
    exact S_zret (pc := 48) ⟨rfl, rfl⟩ rfl rfl dX4_hasField_48
  · refine S_aload_n (pc := 10) dX4_hasField_10 rfl ?_
    refine S_gP (pc := 11) fl_X4_28 rfl dX4_hasField_11 (fun a_16 => ?_)
    refine S_iload_n (pc := 14) dX4_hasField_14 rfl ?_
    refine S_ldI (pc := 15) dX4_hasField_15 (fun x_17 => ?_)
    refine S_iload_n (pc := 16) dX4_hasField_16 rfl ?_
    refine S_icmpne (pc := 17) (tgt := 41) dX4_hasField_17 (by decide) ?_ ?_
    · exact (sX4_hasField_41 h2 r0 v1 v2 v3)
    · refine S_aload_n (pc := 20) dX4_hasField_20 rfl ?_
      refine S_gP (pc := 21) fl_X4_25 rfl dX4_hasField_21 (fun a_18 => ?_)
      refine S_iload_n (pc := 24) dX4_hasField_24 rfl ?_
      refine S_ldI (pc := 25) dX4_hasField_25 (fun x_19 => ?_)
      refine S_ifne (pc := 26) (tgt := 41) dX4_hasField_26 (by decide) ?_ ?_
      · exact (sX4_hasField_41 h2 r0 v1 v2 v3)
      · refine S_aload_n (pc := 29) dX4_hasField_29 rfl ?_
        refine S_gP (pc := 30) fl_X4_31 rfl dX4_hasField_30 (fun a_20 => ?_)
        refine S_iload_n (pc := 33) dX4_hasField_33 rfl ?_
        refine S_ldI (pc := 34) dX4_hasField_34 (fun x_21 => ?_)
        refine S_iload_n (pc := 35) dX4_hasField_35 rfl ?_
        refine S_icmpne (pc := 36) (tgt := 41) dX4_hasField_36 (by decide) ?_ ?_
        · exact (sX4_hasField_41 h2 r0 v1 v2 v3)
        · refine S_iconst (pc := 39) (v := (nI 1)) dX4_hasField_39 kI_1 ?_
          exact S_zret (pc := 40) ⟨rfl, rfl⟩ rfl rfl dX4_hasField_40
theorem sX4_hasField_2  : ∀ (n : Nat) (r0 : Nat) (v1 : Int32) (v2 : Int32) (v3 : Int32), Sm mX4_hasField rI 0 0 2 [some (.ref r0), some (.int v1), some (.int v2), some (.int v3)] [] (lX4_hasField_2 n r0 v1 v2 v3)
  | 0, _, _, _, _ => S_none
  | n + 1, r0, v1, v2, v3 => sbX4_hasField_2 (sX4_hasField_2 n) r0 v1 v2 v3
theorem sX4_hasField  (r0 : Nat) (v1 : Int32) (v2 : Int32) : Sm mX4_hasField rI 0 0 0 [some (.ref r0), some (.int v1), some (.int v2), none] [] (fX4_hasField r0 v1 v2) := by
  unfold fX4_hasField
  refine S_iconst (pc := 0) (v := (nI 0)) dX4_hasField_0 kI_0 ?_
  refine Z_istore_n (pc := 1) (lv' := [some (.ref r0), some (.int v1), some (.int v2), some (.int (nI 0))]) dX4_hasField_1 rfl rfl rfl ?_
  exact (sX4_hasField_2 fuel r0 v1 v2 (nI 0))
theorem ktX4_hasField (r0 : Nat) (v1 : Int32) (v2 : Int32) : Ct mX4_hasField rI [.ref r0, .int v1, .int v2] (fX4_hasField r0 v1 v2) := Ct.of (z := 1) pn_X4 rfl rfl rfl (sX4_hasField r0 v1 v2)
def mX4_hasMethod : MI := (yX4_hasMethod, cX4_hasMethod, 4, (some .boolean), { frames := 0, cells := 0, slots := 0, locals := 0 }, [])
theorem mw_X4_hasMethod : MW mX4_hasMethod 2 := ⟨w939, w4, ⟨by decide, by decide⟩, by decide +kernel⟩
theorem mv_X4_hasMethod : MV mX4_hasMethod 4 := ⟨_, rfl, w937, w938⟩
def fX4_hasMethod_32 (k2 : Nat → Int32 → Int32 → Int32 → AH → Option (Int32 × AH)) (r0 : Nat) (v1 : Int32) (v2 : Int32) (v3 : Int32) : AH → Option (Int32 × AH) := fun h =>
  k2 r0 v1 v2 (v3 + (nI 1)) h
def bX4_hasMethod_2  (k2 : Nat → Int32 → Int32 → Int32 → AH → Option (Int32 × AH)) (r0 : Nat) (v1 : Int32) (v2 : Int32) (v3 : Int32) : AH → Option (Int32 × AH) := fun h =>
  (gI 4 r0 0 h).bind fun x_11 =>
  if x_11 ≤ v3 then (
    rz (nI 0) (nI 0) h)
  else
  (gP 4 r0 5 h).bind fun a_12 =>
  (ldI a_12 v3 h).bind fun x_13 =>
  if x_13 = v1 then (
    (gP 4 r0 11 h).bind fun a_14 =>
    (ldI a_14 v3 h).bind fun x_15 =>
    if x_15 = v2 then (
      rz (nI 1) (nI 1) h)
    else
    fX4_hasMethod_32 k2 r0 v1 v2 v3 h)
  else
  fX4_hasMethod_32 k2 r0 v1 v2 v3 h
def lX4_hasMethod_2  : Nat → Nat → Int32 → Int32 → Int32 → AH → Option (Int32 × AH)
  | 0 => fun _ _ _ _ _ => none
  | n + 1 => bX4_hasMethod_2 (lX4_hasMethod_2 n)
def fX4_hasMethod  (r0 : Nat) (v1 : Int32) (v2 : Int32) : AH → Option (Int32 × AH) := fun h =>
  lX4_hasMethod_2 fuel r0 v1 v2 (nI 0) h
theorem sX4_hasMethod_32 {k2 : Nat → Int32 → Int32 → Int32 → AH → Option (Int32 × AH)} (h2 : ∀ (r0 : Nat) (v1 : Int32) (v2 : Int32) (v3 : Int32), Sm mX4_hasMethod rI 0 0 2 [some (.ref r0), some (.int v1), some (.int v2), some (.int v3)] [] (k2 r0 v1 v2 v3)) (r0 : Nat) (v1 : Int32) (v2 : Int32) (v3 : Int32) : Sm mX4_hasMethod rI 0 0 32 [some (.ref r0), some (.int v1), some (.int v2), some (.int v3)] [] (fX4_hasMethod_32 k2 r0 v1 v2 v3) := by
  unfold fX4_hasMethod_32
  refine Z_iinc (pc := 32) (v := (nI 1)) (lv' := [some (.ref r0), some (.int v1), some (.int v2), some (.int (v3 + (nI 1)))]) dX4_hasMethod_32 rfl kI_1 rfl rfl rfl ?_
  refine S_goto (pc := 35) (tgt := 2) dX4_hasMethod_35 (by decide) ?_
  exact (h2 r0 v1 v2 (v3 + (nI 1)))
theorem sbX4_hasMethod_2  {k2 : Nat → Int32 → Int32 → Int32 → AH → Option (Int32 × AH)} (h2 : ∀ (r0 : Nat) (v1 : Int32) (v2 : Int32) (v3 : Int32), Sm mX4_hasMethod rI 0 0 2 [some (.ref r0), some (.int v1), some (.int v2), some (.int v3)] [] (k2 r0 v1 v2 v3)) (r0 : Nat) (v1 : Int32) (v2 : Int32) (v3 : Int32) : Sm mX4_hasMethod rI 0 0 2 [some (.ref r0), some (.int v1), some (.int v2), some (.int v3)] [] (bX4_hasMethod_2 k2 r0 v1 v2 v3) := by
  unfold bX4_hasMethod_2
  refine S_iload_n (pc := 2) dX4_hasMethod_2 rfl ?_
  refine S_aload_n (pc := 3) dX4_hasMethod_3 rfl ?_
  refine S_gI (pc := 4) fl_X4_9 rfl dX4_hasMethod_4 (fun x_11 => ?_)
  refine S_icmpge (pc := 7) (tgt := 38) dX4_hasMethod_7 (by decide) ?_ ?_
  · refine S_iconst (pc := 38) (v := (nI 0)) dX4_hasMethod_38 kI_0 ?_
    exact S_zret (pc := 39) ⟨rfl, rfl⟩ rfl rfl dX4_hasMethod_39
  · refine S_aload_n (pc := 10) dX4_hasMethod_10 rfl ?_
    refine S_gP (pc := 11) fl_X4_28 rfl dX4_hasMethod_11 (fun a_12 => ?_)
    refine S_iload_n (pc := 14) dX4_hasMethod_14 rfl ?_
    refine S_ldI (pc := 15) dX4_hasMethod_15 (fun x_13 => ?_)
    refine S_iload_n (pc := 16) dX4_hasMethod_16 rfl ?_
    refine S_icmpne (pc := 17) (tgt := 32) dX4_hasMethod_17 (by decide) ?_ ?_
    · exact (sX4_hasMethod_32 h2 r0 v1 v2 v3)
    · refine S_aload_n (pc := 20) dX4_hasMethod_20 rfl ?_
      refine S_gP (pc := 21) fl_X4_46 rfl dX4_hasMethod_21 (fun a_14 => ?_)
      refine S_iload_n (pc := 24) dX4_hasMethod_24 rfl ?_
      refine S_ldI (pc := 25) dX4_hasMethod_25 (fun x_15 => ?_)
      refine S_iload_n (pc := 26) dX4_hasMethod_26 rfl ?_
      refine S_icmpne (pc := 27) (tgt := 32) dX4_hasMethod_27 (by decide) ?_ ?_
      · exact (sX4_hasMethod_32 h2 r0 v1 v2 v3)
      · refine S_iconst (pc := 30) (v := (nI 1)) dX4_hasMethod_30 kI_1 ?_
        exact S_zret (pc := 31) ⟨rfl, rfl⟩ rfl rfl dX4_hasMethod_31
theorem sX4_hasMethod_2  : ∀ (n : Nat) (r0 : Nat) (v1 : Int32) (v2 : Int32) (v3 : Int32), Sm mX4_hasMethod rI 0 0 2 [some (.ref r0), some (.int v1), some (.int v2), some (.int v3)] [] (lX4_hasMethod_2 n r0 v1 v2 v3)
  | 0, _, _, _, _ => S_none
  | n + 1, r0, v1, v2, v3 => sbX4_hasMethod_2 (sX4_hasMethod_2 n) r0 v1 v2 v3
theorem sX4_hasMethod  (r0 : Nat) (v1 : Int32) (v2 : Int32) : Sm mX4_hasMethod rI 0 0 0 [some (.ref r0), some (.int v1), some (.int v2), none] [] (fX4_hasMethod r0 v1 v2) := by
  unfold fX4_hasMethod
  refine S_iconst (pc := 0) (v := (nI 0)) dX4_hasMethod_0 kI_0 ?_
  refine Z_istore_n (pc := 1) (lv' := [some (.ref r0), some (.int v1), some (.int v2), some (.int (nI 0))]) dX4_hasMethod_1 rfl rfl rfl ?_
  exact (sX4_hasMethod_2 fuel r0 v1 v2 (nI 0))
theorem ktX4_hasMethod (r0 : Nat) (v1 : Int32) (v2 : Int32) : Ct mX4_hasMethod rI [.ref r0, .int v1, .int v2] (fX4_hasMethod r0 v1 v2) := Ct.of (z := 1) pn_X4 rfl rfl rfl (sX4_hasMethod r0 v1 v2)
def mX4_isFull : MI := (yX4_isFull, cX4_isFull, 1, (some .boolean), { frames := 0, cells := 0, slots := 0, locals := 0 }, [])
theorem mw_X4_isFull : MW mX4_isFull 0 := ⟨w920, w4, ⟨by decide, by decide⟩, by decide +kernel⟩
theorem mv_X4_isFull : MV mX4_isFull 4 := ⟨_, rfl, w918, w919⟩
def fX4_isFull  (r0 : Nat) : AH → Option (Int32 × AH) := fun h =>
  (gI 4 r0 0 h).bind fun x_2 =>
  if x_2 < (nI 40) then (
    rz (nI 0) (nI 0) h)
  else
  rz (nI 1) (nI 1) h
theorem sX4_isFull  (r0 : Nat) : Sm mX4_isFull rI 0 0 0 [some (.ref r0)] [] (fX4_isFull r0) := by
  unfold fX4_isFull
  refine S_aload_n (pc := 0) dX4_isFull_0 rfl ?_
  refine S_gI (pc := 1) fl_X4_9 rfl dX4_isFull_1 (fun x_2 => ?_)
  refine S_bipush (pc := 4) (v := (nI 40)) dX4_isFull_4 kB_40 ?_
  refine S_icmplt (pc := 6) (tgt := 13) dX4_isFull_6 (by decide) ?_ ?_
  · refine S_iconst (pc := 13) (v := (nI 0)) dX4_isFull_13 kI_0 ?_
    exact S_zret (pc := 14) ⟨rfl, rfl⟩ rfl rfl dX4_isFull_14
  · refine S_iconst (pc := 9) (v := (nI 1)) dX4_isFull_9 kI_1 ?_
    refine S_goto (pc := 10) (tgt := 14) dX4_isFull_10 (by decide) ?_
    exact S_zret (pc := 14) ⟨rfl, rfl⟩ rfl rfl dX4_isFull_14
theorem ktX4_isFull (r0 : Nat) : Ct mX4_isFull rI [.ref r0] (fX4_isFull r0) := Ct.of (z := 0) pn_X4 rfl rfl rfl (sX4_isFull r0)
def mX4_isStaticFinal : MI := (yX4_isStaticFinal, cX4_isStaticFinal, 2, (some .boolean), { frames := 0, cells := 0, slots := 0, locals := 0 }, [])
theorem mw_X4_isStaticFinal : MW mX4_isStaticFinal 1 := ⟨w409, w4, ⟨by decide, by decide⟩, by decide +kernel⟩
theorem mv_X4_isStaticFinal : MV mX4_isStaticFinal 4 := ⟨_, rfl, w407, w408⟩
def fX4_isStaticFinal  (r0 : Nat) (v1 : Int32) : AH → Option (Int32 × AH) := fun h =>
  (gP 4 r0 2 h).bind fun a_5 =>
  (ldI a_5 v1 h).bind fun x_6 =>
  if (x_6 &&& (nI 1)) = 0 then (
    rz (nI 0) (nI 0) h)
  else
  (gP 4 r0 2 h).bind fun a_7 =>
  (ldI a_7 v1 h).bind fun x_8 =>
  if (x_8 &&& (nI 2)) = 0 then (
    rz (nI 0) (nI 0) h)
  else
  rz (nI 1) (nI 1) h
theorem sX4_isStaticFinal  (r0 : Nat) (v1 : Int32) : Sm mX4_isStaticFinal rI 0 0 0 [some (.ref r0), some (.int v1)] [] (fX4_isStaticFinal r0 v1) := by
  unfold fX4_isStaticFinal
  refine S_aload_n (pc := 0) dX4_isStaticFinal_0 rfl ?_
  refine S_gP (pc := 1) fl_X4_19 rfl dX4_isStaticFinal_1 (fun a_5 => ?_)
  refine S_iload_n (pc := 4) dX4_isStaticFinal_4 rfl ?_
  refine S_ldI (pc := 5) dX4_isStaticFinal_5 (fun x_6 => ?_)
  refine S_iconst (pc := 6) (v := (nI 1)) dX4_isStaticFinal_6 kI_1 ?_
  refine S_iand (pc := 7) dX4_isStaticFinal_7 ?_
  refine S_ifeq (pc := 8) (tgt := 26) dX4_isStaticFinal_8 (by decide) ?_ ?_
  · refine S_iconst (pc := 26) (v := (nI 0)) dX4_isStaticFinal_26 kI_0 ?_
    exact S_zret (pc := 27) ⟨rfl, rfl⟩ rfl rfl dX4_isStaticFinal_27
  · refine S_aload_n (pc := 11) dX4_isStaticFinal_11 rfl ?_
    refine S_gP (pc := 12) fl_X4_19 rfl dX4_isStaticFinal_12 (fun a_7 => ?_)
    refine S_iload_n (pc := 15) dX4_isStaticFinal_15 rfl ?_
    refine S_ldI (pc := 16) dX4_isStaticFinal_16 (fun x_8 => ?_)
    refine S_iconst (pc := 17) (v := (nI 2)) dX4_isStaticFinal_17 kI_2 ?_
    refine S_iand (pc := 18) dX4_isStaticFinal_18 ?_
    refine S_ifeq (pc := 19) (tgt := 26) dX4_isStaticFinal_19 (by decide) ?_ ?_
    · refine S_iconst (pc := 26) (v := (nI 0)) dX4_isStaticFinal_26 kI_0 ?_
      exact S_zret (pc := 27) ⟨rfl, rfl⟩ rfl rfl dX4_isStaticFinal_27
    · refine S_iconst (pc := 22) (v := (nI 1)) dX4_isStaticFinal_22 kI_1 ?_
      refine S_goto (pc := 23) (tgt := 27) dX4_isStaticFinal_23 (by decide) ?_
      exact S_zret (pc := 27) ⟨rfl, rfl⟩ rfl rfl dX4_isStaticFinal_27
theorem ktX4_isStaticFinal (r0 : Nat) (v1 : Int32) : Ct mX4_isStaticFinal rI [.ref r0, .int v1] (fX4_isStaticFinal r0 v1) := Ct.of (z := 0) pn_X4 rfl rfl rfl (sX4_isStaticFinal r0 v1)
def mX4_putValue : MI := (yX4_putValue, cX4_putValue, 4, none, { frames := 1, cells := 0, slots := 0, locals := 21 }, [])
theorem mw_X4_putValue : MW mX4_putValue 3 := ⟨w405, w4, ⟨by decide, by decide⟩, by decide +kernel⟩
theorem mv_X4_putValue : MV mX4_putValue 4 := ⟨_, rfl, w403, w404⟩
def fX4_putValue  (r0 : Nat) (v1 : Int32) (v2 : Int32) (v3 : Int32) : AH → Option (Unit × AH) := fun h =>
  if v2 = (nI 0) then (
    (gP 4 r0 1 h).bind fun a_6 =>
    (stI a_6 v1 v3 h).bind fun h =>
    some ((), h))
  else
  if v2 = (nI 1) then (
    (gP 4 r0 2 h).bind fun a_7 =>
    (stI a_7 v1 v3 h).bind fun h =>
    cv 4 r0 (fX4_isStaticFinal r0 v1) h fun x_8 h =>
    if x_8 = 0 then (
      (gP 4 r0 3 h).bind fun a_9 =>
      (stI a_9 v1 (-2 : Int32) h).bind fun h =>
      some ((), h))
    else
    some ((), h))
  else
  (gP 4 r0 3 h).bind fun a_10 =>
  (stI a_10 v1 v3 h).bind fun h =>
  some ((), h)
theorem sX4_putValue  (r0 : Nat) (v1 : Int32) (v2 : Int32) (v3 : Int32) : Sm mX4_putValue rV 0 0 0 [some (.ref r0), some (.int v1), some (.int v2), some (.int v3)] [] (fX4_putValue r0 v1 v2 v3) := by
  unfold fX4_putValue
  refine S_iload_n (pc := 0) dX4_putValue_0 rfl ?_
  refine S_case (x := v2) (v := (nI 0)) (fun n0 => ?_) (fun n0 => ?_)
  · refine S_lsI (pc := 1) (tgt := 28) n0 dX4_putValue_1 (by decide) rfl (by decide) ?_
    refine S_aload_n (pc := 28) dX4_putValue_28 rfl ?_
    refine S_gP (pc := 29) fl_X4_15 rfl dX4_putValue_29 (fun a_6 => ?_)
    refine S_iload_n (pc := 32) dX4_putValue_32 rfl ?_
    refine S_iload_n (pc := 33) dX4_putValue_33 rfl ?_
    refine S_stI (pc := 34) dX4_putValue_34 ?_
    refine S_goto (pc := 35) (tgt := 71) dX4_putValue_35 (by decide) ?_
    exact S_vret (pc := 71) ⟨rfl, rfl⟩ rfl rfl dX4_putValue_71
  refine S_case (x := v2) (v := (nI 1)) (fun n1 => ?_) (fun n1 => ?_)
  · refine S_lsI (pc := 1) (tgt := 38) n1 dX4_putValue_1 (by decide) rfl (by decide) ?_
    refine S_aload_n (pc := 38) dX4_putValue_38 rfl ?_
    refine S_gP (pc := 39) fl_X4_19 rfl dX4_putValue_39 (fun a_7 => ?_)
    refine S_iload_n (pc := 42) dX4_putValue_42 rfl ?_
    refine S_iload_n (pc := 43) dX4_putValue_43 rfl ?_
    refine S_stI (pc := 44) dX4_putValue_44 ?_
    refine S_aload_n (pc := 45) dX4_putValue_45 rfl ?_
    refine S_iload_n (pc := 46) dX4_putValue_46 rfl ?_
    refine Y_Vi (pc := 47) (st := []) (kc' := 0) (ks' := 0) (ktX4_isStaticFinal r0 v1) mw_X4_isStaticFinal mv_X4_isStaticFinal w406 (RO.mk rfl rfl rfl rfl) rfl rfl rfl dX4_putValue_47 ⟨rfl, rfl⟩ (fun x_8 => ?_)
    refine S_ifne (pc := 50) (tgt := 71) dX4_putValue_50 (by decide) ?_ ?_
    · exact S_vret (pc := 71) ⟨rfl, rfl⟩ rfl rfl dX4_putValue_71
    · refine S_aload_n (pc := 53) dX4_putValue_53 rfl ?_
      refine S_gP (pc := 54) fl_X4_22 rfl dX4_putValue_54 (fun a_9 => ?_)
      refine S_iload_n (pc := 57) dX4_putValue_57 rfl ?_
      refine S_bipush (pc := 58) (v := (-2 : Int32)) dX4_putValue_58 kB_m2 ?_
      refine S_stI (pc := 60) dX4_putValue_60 ?_
      refine S_goto (pc := 61) (tgt := 71) dX4_putValue_61 (by decide) ?_
      exact S_vret (pc := 71) ⟨rfl, rfl⟩ rfl rfl dX4_putValue_71
  refine S_lsD (pc := 1) (tgt := 64) (by show Op.lookupswitch.offset [(0, 27), (1, 37)] (63) _ = _; rw [lv_osw (a := 0) n0 rfl, lv_osw (a := 1) n1 rfl]; rfl) (by decide) dX4_putValue_1 (by decide) ?_
  refine S_aload_n (pc := 64) dX4_putValue_64 rfl ?_
  refine S_gP (pc := 65) fl_X4_22 rfl dX4_putValue_65 (fun a_10 => ?_)
  refine S_iload_n (pc := 68) dX4_putValue_68 rfl ?_
  refine S_iload_n (pc := 69) dX4_putValue_69 rfl ?_
  refine S_stI (pc := 70) dX4_putValue_70 ?_
  exact S_vret (pc := 71) ⟨rfl, rfl⟩ rfl rfl dX4_putValue_71
theorem ktX4_putValue (r0 : Nat) (v1 : Int32) (v2 : Int32) (v3 : Int32) : Ct mX4_putValue rV [.ref r0, .int v1, .int v2, .int v3] (fX4_putValue r0 v1 v2 v3) := Ct.of (z := 0) pn_X4 rfl rfl rfl (sX4_putValue r0 v1 v2 v3)
def mX4_valueOf : MI := (yX4_valueOf, cX4_valueOf, 3, (some .int), { frames := 0, cells := 0, slots := 0, locals := 0 }, [])
theorem mw_X4_valueOf : MW mX4_valueOf 2 := ⟨w617, w4, ⟨by decide, by decide⟩, by decide +kernel⟩
theorem mv_X4_valueOf : MV mX4_valueOf 4 := ⟨_, rfl, w615, w616⟩
def fX4_valueOf  (r0 : Nat) (v1 : Int32) (v2 : Int32) : AH → Option (Int32 × AH) := fun h =>
  if v2 = (nI 0) then (
    (gP 4 r0 1 h).bind fun a_21 =>
    (ldI a_21 v1 h).bind fun x_22 =>
    some (x_22, h))
  else
  if v2 = (nI 1) then (
    (gP 4 r0 2 h).bind fun a_23 =>
    (ldI a_23 v1 h).bind fun x_24 =>
    some (x_24, h))
  else
  if v2 = (nI 2) then (
    (gP 4 r0 3 h).bind fun a_25 =>
    (ldI a_25 v1 h).bind fun x_26 =>
    some (x_26, h))
  else
  if v2 = (nI 3) then (
    (gP 4 r0 4 h).bind fun a_27 =>
    (ldI a_27 v1 h).bind fun x_28 =>
    some (x_28, h))
  else
  if v2 = (nI 4) then (
    (gP 4 r0 5 h).bind fun a_29 =>
    (ldI a_29 v1 h).bind fun x_30 =>
    some (x_30, h))
  else
  if v2 = (nI 5) then (
    (gP 4 r0 6 h).bind fun a_31 =>
    (ldI a_31 v1 h).bind fun x_32 =>
    some (x_32, h))
  else
  if v2 = (nI 6) then (
    (gP 4 r0 7 h).bind fun a_33 =>
    (ldI a_33 v1 h).bind fun x_34 =>
    some (x_34, h))
  else
  if v2 = (nI 7) then (
    (gP 4 r0 8 h).bind fun a_35 =>
    (ldI a_35 v1 h).bind fun x_36 =>
    some (x_36, h))
  else
  if v2 = (nI 8) then (
    (gP 4 r0 9 h).bind fun a_37 =>
    (ldI a_37 v1 h).bind fun x_38 =>
    some (x_38, h))
  else
  (gP 4 r0 10 h).bind fun a_39 =>
  (ldI a_39 v1 h).bind fun x_40 =>
  some (x_40, h)
theorem sX4_valueOf  (r0 : Nat) (v1 : Int32) (v2 : Int32) : Sm mX4_valueOf rI 0 0 0 [some (.ref r0), some (.int v1), some (.int v2)] [] (fX4_valueOf r0 v1 v2) := by
  unfold fX4_valueOf
  refine S_iload_n (pc := 0) dX4_valueOf_0 rfl ?_
  refine S_case (x := v2) (v := (nI 0)) (fun n0 => ?_) (fun n0 => ?_)
  · refine S_tsI (pc := 1) (tgt := 52) n0 dX4_valueOf_1 (by decide) rfl (by decide) ?_
    refine S_aload_n (pc := 52) dX4_valueOf_52 rfl ?_
    refine S_gP (pc := 53) fl_X4_15 rfl dX4_valueOf_53 (fun a_21 => ?_)
    refine S_iload_n (pc := 56) dX4_valueOf_56 rfl ?_
    refine S_ldI (pc := 57) dX4_valueOf_57 (fun x_22 => ?_)
    exact S_iret (pc := 58) ⟨rfl, rfl⟩ rfl rfl dX4_valueOf_58
  refine S_case (x := v2) (v := (nI 1)) (fun n1 => ?_) (fun n1 => ?_)
  · refine S_tsI (pc := 1) (tgt := 59) n1 dX4_valueOf_1 (by decide) rfl (by decide) ?_
    refine S_aload_n (pc := 59) dX4_valueOf_59 rfl ?_
    refine S_gP (pc := 60) fl_X4_19 rfl dX4_valueOf_60 (fun a_23 => ?_)
    refine S_iload_n (pc := 63) dX4_valueOf_63 rfl ?_
    refine S_ldI (pc := 64) dX4_valueOf_64 (fun x_24 => ?_)
    exact S_iret (pc := 65) ⟨rfl, rfl⟩ rfl rfl dX4_valueOf_65
  refine S_case (x := v2) (v := (nI 2)) (fun n2 => ?_) (fun n2 => ?_)
  · refine S_tsI (pc := 1) (tgt := 66) n2 dX4_valueOf_1 (by decide) rfl (by decide) ?_
    refine S_aload_n (pc := 66) dX4_valueOf_66 rfl ?_
    refine S_gP (pc := 67) fl_X4_22 rfl dX4_valueOf_67 (fun a_25 => ?_)
    refine S_iload_n (pc := 70) dX4_valueOf_70 rfl ?_
    refine S_ldI (pc := 71) dX4_valueOf_71 (fun x_26 => ?_)
    exact S_iret (pc := 72) ⟨rfl, rfl⟩ rfl rfl dX4_valueOf_72
  refine S_case (x := v2) (v := (nI 3)) (fun n3 => ?_) (fun n3 => ?_)
  · refine S_tsI (pc := 1) (tgt := 73) n3 dX4_valueOf_1 (by decide) rfl (by decide) ?_
    refine S_aload_n (pc := 73) dX4_valueOf_73 rfl ?_
    refine S_gP (pc := 74) fl_X4_25 rfl dX4_valueOf_74 (fun a_27 => ?_)
    refine S_iload_n (pc := 77) dX4_valueOf_77 rfl ?_
    refine S_ldI (pc := 78) dX4_valueOf_78 (fun x_28 => ?_)
    exact S_iret (pc := 79) ⟨rfl, rfl⟩ rfl rfl dX4_valueOf_79
  refine S_case (x := v2) (v := (nI 4)) (fun n4 => ?_) (fun n4 => ?_)
  · refine S_tsI (pc := 1) (tgt := 80) n4 dX4_valueOf_1 (by decide) rfl (by decide) ?_
    refine S_aload_n (pc := 80) dX4_valueOf_80 rfl ?_
    refine S_gP (pc := 81) fl_X4_28 rfl dX4_valueOf_81 (fun a_29 => ?_)
    refine S_iload_n (pc := 84) dX4_valueOf_84 rfl ?_
    refine S_ldI (pc := 85) dX4_valueOf_85 (fun x_30 => ?_)
    exact S_iret (pc := 86) ⟨rfl, rfl⟩ rfl rfl dX4_valueOf_86
  refine S_case (x := v2) (v := (nI 5)) (fun n5 => ?_) (fun n5 => ?_)
  · refine S_tsI (pc := 1) (tgt := 87) n5 dX4_valueOf_1 (by decide) rfl (by decide) ?_
    refine S_aload_n (pc := 87) dX4_valueOf_87 rfl ?_
    refine S_gP (pc := 88) fl_X4_31 rfl dX4_valueOf_88 (fun a_31 => ?_)
    refine S_iload_n (pc := 91) dX4_valueOf_91 rfl ?_
    refine S_ldI (pc := 92) dX4_valueOf_92 (fun x_32 => ?_)
    exact S_iret (pc := 93) ⟨rfl, rfl⟩ rfl rfl dX4_valueOf_93
  refine S_case (x := v2) (v := (nI 6)) (fun n6 => ?_) (fun n6 => ?_)
  · refine S_tsI (pc := 1) (tgt := 94) n6 dX4_valueOf_1 (by decide) rfl (by decide) ?_
    refine S_aload_n (pc := 94) dX4_valueOf_94 rfl ?_
    refine S_gP (pc := 95) fl_X4_34 rfl dX4_valueOf_95 (fun a_33 => ?_)
    refine S_iload_n (pc := 98) dX4_valueOf_98 rfl ?_
    refine S_ldI (pc := 99) dX4_valueOf_99 (fun x_34 => ?_)
    exact S_iret (pc := 100) ⟨rfl, rfl⟩ rfl rfl dX4_valueOf_100
  refine S_case (x := v2) (v := (nI 7)) (fun n7 => ?_) (fun n7 => ?_)
  · refine S_tsI (pc := 1) (tgt := 101) n7 dX4_valueOf_1 (by decide) rfl (by decide) ?_
    refine S_aload_n (pc := 101) dX4_valueOf_101 rfl ?_
    refine S_gP (pc := 102) fl_X4_37 rfl dX4_valueOf_102 (fun a_35 => ?_)
    refine S_iload_n (pc := 105) dX4_valueOf_105 rfl ?_
    refine S_ldI (pc := 106) dX4_valueOf_106 (fun x_36 => ?_)
    exact S_iret (pc := 107) ⟨rfl, rfl⟩ rfl rfl dX4_valueOf_107
  refine S_case (x := v2) (v := (nI 8)) (fun n8 => ?_) (fun n8 => ?_)
  · refine S_tsI (pc := 1) (tgt := 108) n8 dX4_valueOf_1 (by decide) rfl (by decide) ?_
    refine S_aload_n (pc := 108) dX4_valueOf_108 rfl ?_
    refine S_gP (pc := 109) fl_X4_40 rfl dX4_valueOf_109 (fun a_37 => ?_)
    refine S_iload_n (pc := 112) dX4_valueOf_112 rfl ?_
    refine S_ldI (pc := 113) dX4_valueOf_113 (fun x_38 => ?_)
    exact S_iret (pc := 114) ⟨rfl, rfl⟩ rfl rfl dX4_valueOf_114
  refine S_tsD (pc := 1) (tgt := 115) (by have n0 := lv_neT (a := 0) n0 rfl; have n1 := lv_neT (a := 1) n1 rfl; have n2 := lv_neT (a := 2) n2 rfl; have n3 := lv_neT (a := 3) n3 rfl; have n4 := lv_neT (a := 4) n4 rfl; have n5 := lv_neT (a := 5) n5 rfl; have n6 := lv_neT (a := 6) n6 rfl; have n7 := lv_neT (a := 7) n7 rfl; have n8 := lv_neT (a := 8) n8 rfl; omega) dX4_valueOf_1 (by decide) ?_
  refine S_aload_n (pc := 115) dX4_valueOf_115 rfl ?_
  refine S_gP (pc := 116) fl_X4_43 rfl dX4_valueOf_116 (fun a_39 => ?_)
  refine S_iload_n (pc := 119) dX4_valueOf_119 rfl ?_
  refine S_ldI (pc := 120) dX4_valueOf_120 (fun x_40 => ?_)
  exact S_iret (pc := 121) ⟨rfl, rfl⟩ rfl rfl dX4_valueOf_121
theorem ktX4_valueOf (r0 : Nat) (v1 : Int32) (v2 : Int32) : Ct mX4_valueOf rI [.ref r0, .int v1, .int v2] (fX4_valueOf r0 v1 v2) := Ct.of (z := 0) pn_X4 rfl rfl rfl (sX4_valueOf r0 v1 v2)
def mX5_init : MI := (yX5_init, cX5_init, 1, none, { frames := 1, cells := 0, slots := 0, locals := 20 }, [])
theorem mw_X5_init : MW mX5_init 0 := ⟨w288, w7, ⟨by decide, by decide⟩, by decide +kernel⟩
def fX5_init  (r0 : Nat) : AH → Option (Unit × AH) := fun h =>
  (pI 5 r0 0 (-1 : Int32) h).bind fun h =>
  (pI 5 r0 1 (nI 0) h).bind fun h =>
  (pI 5 r0 2 (-2 : Int32) h).bind fun h =>
  (pI 5 r0 3 (-2 : Int32) h).bind fun h =>
  some ((), h)
theorem sX5_init  (r0 : Nat) : Sm mX5_init rV 0 0 0 [some (.ref r0)] [] (fX5_init r0) := by
  unfold fX5_init
  refine S_aload_n (pc := 0) dX5_init_0 rfl ?_
  refine S_obj (pc := 1) w289 w25 w26 ⟨rfl, rfl⟩ dX5_init_1 ?_
  refine S_aload_n (pc := 4) dX5_init_4 rfl ?_
  refine S_iconst (pc := 5) (v := (-1 : Int32)) dX5_init_5 kI_m1 ?_
  refine S_pI (pc := 6) fl_X5_9 rfl rfl dX5_init_6 ?_
  refine S_aload_n (pc := 9) dX5_init_9 rfl ?_
  refine S_iconst (pc := 10) (v := (nI 0)) dX5_init_10 kI_0 ?_
  refine S_pI (pc := 11) fl_X5_15 rfl rfl dX5_init_11 ?_
  refine S_aload_n (pc := 14) dX5_init_14 rfl ?_
  refine S_bipush (pc := 15) (v := (-2 : Int32)) dX5_init_15 kB_m2 ?_
  refine S_pI (pc := 17) fl_X5_18 rfl rfl dX5_init_17 ?_
  refine S_aload_n (pc := 20) dX5_init_20 rfl ?_
  refine S_bipush (pc := 21) (v := (-2 : Int32)) dX5_init_21 kB_m2 ?_
  refine S_pI (pc := 23) fl_X5_21 rfl rfl dX5_init_23 ?_
  exact S_vret (pc := 26) ⟨rfl, rfl⟩ rfl rfl dX5_init_26
theorem ktX5_init (r0 : Nat) : Ct mX5_init rV [.ref r0] (fX5_init r0) := Ct.of (z := 0) pn_X5 rfl rfl rfl (sX5_init r0)
def mX5_put : MI := (yX5_put, cX5_put, 5, none, { frames := 0, cells := 0, slots := 0, locals := 0 }, [])
theorem mw_X5_put : MW mX5_put 4 := ⟨w413, w7, ⟨by decide, by decide⟩, by decide +kernel⟩
theorem mv_X5_put : MV mX5_put 5 := ⟨_, rfl, w411, w412⟩
def fX5_put_38  (s0 : Nat) (s1 : Int32) : AH → Option (Unit × AH) := fun h =>
  (pI 5 s0 3 s1 h).bind fun h =>
  some ((), h)
def fX5_put_22  (r0 : Nat) (v2 : Int32) (v4 : Int32) (s0 : Nat) (s1 : Int32) : AH → Option (Unit × AH) := fun h =>
  (pI 5 s0 2 s1 h).bind fun h =>
  if v2 < (nI 2) then (
    fX5_put_38 r0 (-2 : Int32) h)
  else
  fX5_put_38 r0 v4 h
def fX5_put  (r0 : Nat) (v1 : Int32) (v2 : Int32) (v3 : Int32) (v4 : Int32) : AH → Option (Unit × AH) := fun h =>
  (pI 5 r0 0 v1 h).bind fun h =>
  (pI 5 r0 1 v2 h).bind fun h =>
  if v2 < (nI 1) then (
    fX5_put_22 r0 v2 v4 r0 (-2 : Int32) h)
  else
  fX5_put_22 r0 v2 v4 r0 v3 h
theorem sX5_put_38  (s0 : Nat) (s1 : Int32) : Sm mX5_put rV 0 0 38 [none, none, none, none, none] [.int s1, .ref s0] (fX5_put_38 s0 s1) := by
  unfold fX5_put_38
  refine S_pI (pc := 38) fl_X5_21 rfl rfl dX5_put_38 ?_
  exact S_vret (pc := 41) ⟨rfl, rfl⟩ rfl rfl dX5_put_41
theorem sX5_put_22  (r0 : Nat) (v2 : Int32) (v4 : Int32) (s0 : Nat) (s1 : Int32) : Sm mX5_put rV 0 0 22 [some (.ref r0), none, some (.int v2), none, some (.int v4)] [.int s1, .ref s0] (fX5_put_22 r0 v2 v4 s0 s1) := by
  unfold fX5_put_22
  refine S_pI (pc := 22) fl_X5_18 rfl rfl dX5_put_22 ?_
  refine S_aload_n (pc := 25) dX5_put_25 rfl ?_
  refine S_iload_n (pc := 26) dX5_put_26 rfl ?_
  refine S_iconst (pc := 27) (v := (nI 2)) dX5_put_27 kI_2 ?_
  refine S_icmplt (pc := 28) (tgt := 36) dX5_put_28 (by decide) ?_ ?_
  · refine S_bipush (pc := 36) (v := (-2 : Int32)) dX5_put_36 kB_m2 ?_
    exact (S_lv (lv0 := [none, none, none, none, none]) trivial (sX5_put_38 r0 (-2 : Int32)))
  · refine S_iload (pc := 31) dX5_put_31 rfl ?_
    refine S_goto (pc := 33) (tgt := 38) dX5_put_33 (by decide) ?_
    exact (S_lv (lv0 := [none, none, none, none, none]) trivial (sX5_put_38 r0 v4))
theorem sX5_put  (r0 : Nat) (v1 : Int32) (v2 : Int32) (v3 : Int32) (v4 : Int32) : Sm mX5_put rV 0 0 0 [some (.ref r0), some (.int v1), some (.int v2), some (.int v3), some (.int v4)] [] (fX5_put r0 v1 v2 v3 v4) := by
  unfold fX5_put
  refine S_aload_n (pc := 0) dX5_put_0 rfl ?_
  refine S_iload_n (pc := 1) dX5_put_1 rfl ?_
  refine S_pI (pc := 2) fl_X5_9 rfl rfl dX5_put_2 ?_
  refine S_aload_n (pc := 5) dX5_put_5 rfl ?_
  refine S_iload_n (pc := 6) dX5_put_6 rfl ?_
  refine S_pI (pc := 7) fl_X5_15 rfl rfl dX5_put_7 ?_
  refine S_aload_n (pc := 10) dX5_put_10 rfl ?_
  refine S_iload_n (pc := 11) dX5_put_11 rfl ?_
  refine S_iconst (pc := 12) (v := (nI 1)) dX5_put_12 kI_1 ?_
  refine S_icmplt (pc := 13) (tgt := 20) dX5_put_13 (by decide) ?_ ?_
  · refine S_bipush (pc := 20) (v := (-2 : Int32)) dX5_put_20 kB_m2 ?_
    exact (S_lv (lv0 := [some (.ref r0), none, some (.int v2), none, some (.int v4)]) (And.intro rfl (And.intro rfl (And.intro rfl trivial))) (sX5_put_22 r0 v2 v4 r0 (-2 : Int32)))
  · refine S_iload_n (pc := 16) dX5_put_16 rfl ?_
    refine S_goto (pc := 17) (tgt := 22) dX5_put_17 (by decide) ?_
    exact (S_lv (lv0 := [some (.ref r0), none, some (.int v2), none, some (.int v4)]) (And.intro rfl (And.intro rfl (And.intro rfl trivial))) (sX5_put_22 r0 v2 v4 r0 v3))
theorem ktX5_put (r0 : Nat) (v1 : Int32) (v2 : Int32) (v3 : Int32) (v4 : Int32) : Ct mX5_put rV [.ref r0, .int v1, .int v2, .int v3, .int v4] (fX5_put r0 v1 v2 v3 v4) := Ct.of (z := 0) pn_X5 rfl rfl rfl (sX5_put r0 v1 v2 v3 v4)
