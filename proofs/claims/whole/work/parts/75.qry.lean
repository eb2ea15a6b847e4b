/-! ===== questions: exists, members, fits, field, method, memberInfo, selected ===== -/
section Qa
variable {g : Gr} {A R : Nat} {I I' : Mem} {J : Nat → Nat → Int64} {Z : Option Nat} {w w' : Nat → Int32} {n k v c m : Nat} {P : Nat → Nat → Int32} {d : Nat → Int32} {x y z : Int32}
theorem rf1 (hG : ModG g R) : fX9_refused R (nI 1) (mm g I J Z) = some (bI true, mm g (up2 I R 3 (nI 1)) J Z) := M_refS hG (i := 0) (by omega)
theorem rf2 (hG : ModG g R) : fX9_refused R (nI 2) (mm g I J Z) = some (bI true, mm g (up2 I R 3 (nI 2)) J Z) := M_refS hG (i := 1) (by omega)
theorem rf3 (hG : ModG g R) : fX9_refused R (nI 3) (mm g I J Z) = some (bI true, mm g (up2 I R 3 (nI 3)) J Z) := M_refS hG (i := 2) (by omega)
theorem Rel.up3 (h : Rel g A I w n P d) : Rel g A (up2 I (A + 418) 3 x) w n P d := h.fvm fvm_3
theorem Q_exists (h : Rel g A I w n P d) : Agr g A I (fX8_exists A x y) (fX9_exists (A + 418) x y) [1] := by
  rcases ver_cases h.jg x with ⟨v, hv, rfl⟩ | ⟨q1, q2, q3⟩
  · rcases int_x y 10 (by omega) with hy | ⟨c, hc, rfl⟩
    · refine Agr.rfs h (i := 0) (e := 1) ⟨by decide, rfl⟩ (fun J Z => ⟨I, none, ?_, FvC.refl⟩) (fun I1 J Z h1 => ⟨nI 0, up2 I1 (A + 418) 3 (nI 1), ?_, fvm_3, up3⟩)
      · unfold fX8_exists
        rw [h.jg.cv, C_libOf h.jg hv, bd_some, xp_r]
        by_cases h0 : y < 0
        · rw [if_pos h0, thr_m]
        · rw [if_neg h0, if_neg (Int32.not_lt.mpr (hy.resolve_left h0)), thr_m]
      · unfold fX9_exists fX9_exists_23
        rw [M_isV hv, bd_some, bIf, if_tt, wi_no hy (by omega), bd_some, bIf, if_ff, M_cv h1.G, rf1 h1.G, bd_some, bIf, if_tt]
        exact rz_n0 _
    · refine Agr.val h (b := bI (exC w v c)) (fun J Z => ⟨I, Z, ?_, FvC.refl⟩) (fun I1 J Z h1 => ⟨up2 I1 (A + 418) 3 (nI 0), ?_, fvm_3, up3⟩)
      · unfold fX8_exists
        rw [h.jg.cv, C_libOf h.jg hv, bd_some, xp_r, if_neg (nI_pos (by omega)), if_pos (nI_lt hc (by omega)), lib_cv (h.jg.lib hv), C_isThere (h.jg.lib hv) (h.cb hv).R hc, bd_some, rz_bI]
      · unfold fX9_exists fX9_exists_23
        rw [M_isV hv, bd_some, bIf, if_tt, wi_yes (by omega) (by omega), bd_some, bIf, if_tt, M_cv h1.G, M_ref0 h1.G, bd_some, bIf, if_ff, M_cv h1.G, (h1.up3.mb hv).of hc (by decide), bd_some, exC_in hc]
        by_cases q : cl w v c 0 = nI 1
        · rw [if_pos q, decide_eq_true q]; exact rz_n1 _
        · rw [if_neg q, decide_eq_false q]; exact rz_n0 _
  · refine Agr.rfs h (i := 0) (e := 1) ⟨by decide, rfl⟩ (fun J Z => ⟨I, none, ?_, FvC.refl⟩) (fun I1 J Z h1 => ⟨nI 0, up2 I1 (A + 418) 3 (nI 1), ?_, fvm_3, up3⟩)
    · unfold fX8_exists
      rw [h.jg.cv, q2, bd_some, xp_l]
    · unfold fX9_exists fX9_exists_23
      rw [q3, bd_some, bIf, if_ff, M_cv h1.G, rf1 h1.G, bd_some, bIf, if_tt]
      exact rz_n0 _
theorem Q_members (h : Rel g A I w n P d) : Agr g A I (fX8_members A x) (fX9_members (A + 418) x) [1] := by
  rcases ver_cases h.jg x with ⟨v, hv, rfl⟩ | ⟨q1, q2, q3⟩
  · refine Agr.val h (b := nI (nmb w v)) (fun J Z => ⟨I, Z, ?_, FvC.refl⟩) (fun I1 J Z h1 => ⟨up2 I1 (A + 418) 3 (nI 0), ?_, fvm_3, up3⟩)
    · unfold fX8_members
      rw [h.jg.cv, C_libOf h.jg hv, bd_some, xp_r, lib_p10 (h.jg.lib hv), Option.bind_some, C_size (h.jg.lib hv) (h.cb hv).R (h.cb hv).M, Option.bind_some]
    · unfold fX9_members fX9_members_13
      rw [M_isV hv, bd_some, bIf, if_tt, M_cv h1.G, M_ref0 h1.G, bd_some, bIf, if_ff, M_cv h1.G, (h1.up3.mb hv).many, bd_some]
  · refine Agr.rfs h (i := 0) (e := 1) ⟨by decide, rfl⟩ (fun J Z => ⟨I, none, ?_, FvC.refl⟩) (fun I1 J Z h1 => ⟨nI 0, up2 I1 (A + 418) 3 (nI 1), ?_, fvm_3, up3⟩)
    · unfold fX8_members
      rw [h.jg.cv, q2, bd_some, xp_l]
    · unfold fX9_members fX9_members_13
      rw [q3, bd_some, bIf, if_ff, M_cv h1.G, rf1 h1.G, bd_some, bIf, if_tt]
theorem Q_fits (h : Rel g A I w n P d) : Agr g A I (fX8_fits A x y z) (fX9_fits (A + 418) x y z) [1, 2] := by
  rcases ver_cases h.jg x with ⟨v, hv, rfl⟩ | ⟨q1, q2, q3⟩
  · rcases typ_cases y with hy | ⟨y1, y2, y3⟩
    · rcases typ_cases z with hz | ⟨z1, z2, z3⟩
      · refine Agr.val h (b := bI (fitB w v y z)) (fun J Z => ⟨I, Z, ?_, FvC.refl⟩) (fun I1 J Z h1 => ⟨up2 I1 (A + 418) 3 (nI 0), ?_, fvm_3, up3⟩)
        · unfold fX8_fits
          rw [h.jg.cv, C_libOf h.jg hv, bd_some, xp_r, C_isType hy, bd_some, bIf, if_tt, C_isType hz, bd_some, bIf, if_tt, lib_cv (h.jg.lib hv), C_fits (h.jg.lib hv) (h.cb hv).R hy.ty hz.ty, bd_some, rz_bI]
        · unfold fX9_fits fX9_fits_31
          rw [M_isV hv, bd_some, bIf, if_tt, M_isType hy, bd_some, bIf, if_tt, M_isType hz, bd_some, bIf, if_tt, M_cv h1.G, M_ref0 h1.G, bd_some, bIf, if_ff, M_cv h1.G, (h1.up3.mb hv).fit hy.ty hz.ty, bd_some, bIf]
          cases fitB w v y z
          · exact rz_n0 _
          · exact rz_n1 _
      · refine Agr.rfs h (i := 1) (e := 2) ⟨by decide, rfl⟩ (fun J Z => ⟨I, none, ?_, FvC.refl⟩) (fun I1 J Z h1 => ⟨nI 0, up2 I1 (A + 418) 3 (nI 2), ?_, fvm_3, up3⟩)
        · unfold fX8_fits
          rw [h.jg.cv, C_libOf h.jg hv, bd_some, xp_r, C_isType hy, bd_some, bIf, if_tt, z1, bd_some, bIf, if_ff, thr_m]
        · unfold fX9_fits fX9_fits_31
          rw [M_isV hv, bd_some, bIf, if_tt, M_isType hy, bd_some, bIf, if_tt, z3, bd_some, bIf, if_ff, M_cv h1.G, rf2 h1.G, bd_some, bIf, if_tt]
          exact rz_n0 _
    · refine Agr.rfs h (i := 1) (e := 2) ⟨by decide, rfl⟩ (fun J Z => ⟨I, none, ?_, FvC.refl⟩) (fun I1 J Z h1 => ⟨nI 0, up2 I1 (A + 418) 3 (nI 2), ?_, fvm_3, up3⟩)
      · unfold fX8_fits
        rw [h.jg.cv, C_libOf h.jg hv, bd_some, xp_r, y1, bd_some, bIf, if_ff, thr_m]
      · unfold fX9_fits fX9_fits_31
        rw [M_isV hv, bd_some, bIf, if_tt, y3, bd_some, bIf, if_ff, M_cv h1.G, rf2 h1.G, bd_some, bIf, if_tt]
        exact rz_n0 _
  · refine Agr.rfs h (i := 0) (e := 1) ⟨by decide, rfl⟩ (fun J Z => ⟨I, none, ?_, FvC.refl⟩) (fun I1 J Z h1 => ⟨nI 0, up2 I1 (A + 418) 3 (nI 1), ?_, fvm_3, up3⟩)
    · unfold fX8_fits
      rw [h.jg.cv, q2, bd_some, xp_l]
    · unfold fX9_fits fX9_fits_31
      rw [q3, bd_some, bIf, if_ff, M_cv h1.G, rf1 h1.G, bd_some, bIf, if_tt]
      exact rz_n0 _
theorem Ty1.n3 (h : Ty1 x) : x ≠ -3 := by
  obtain ⟨k, k1, k2, rfl⟩ := h
  exact (by decide +kernel : ∀ k, k < 12 → tI k ≠ -3) k k2
theorem fa_fvc (hv : v < 2) (h : Fa (A + 1 + 3 + 20 * v) I I') : FvC A I I' := fun x _ b c => h x (by omega)
theorem ModG.ld3 (hG : ModG g R) {k : Nat} (hk : k < 4) : ldI (R + 3) (nI k) (mm g I J Z) = some (I (R + 3) k) := ldI_m hG.2.2.2.2.2.2.2.2.2.2.1.1 (by rw [hG.2.2.2.2.2.2.2.2.2.2.1.2]; exact hk) (by omega)
theorem Q_field (h : Rel g A I w n P d) : Agr g A I (fX8_field A x y z) (fX9_field (A + 418) x y z) [1, 2] := by
  rcases lib_cases h x y with ⟨v, c, hv, he, rfl, rfl⟩ | ⟨q1, q2⟩
  · rcases nam_cases z with ⟨q, hq, rfl⟩ | ⟨z1, z2, z3⟩
    · refine Agr.val h (b := oI (fdS w v (nI q) false (d 0) c)) (fun J Z => ?_) (fun I1 J Z h1 => ?_)
      · obtain ⟨I3, t1, t2⟩ := C_fieldFor (J := J) (Z := Z) (nm := nI q) (t := d 0) (h.cb hv) he
        rw [decide_eq_false h.2.2.2.2.2.2.1.n3] at t1
        refine ⟨I3, Z, ?_, fa_fvc hv t2⟩
        unfold fX8_field
        rw [h.jg.cv, C_libWith h hv he, bd_some, xp_r, C_reqN hq, bd_some, xp_r, h.jg.p4, Option.bind_some, h.D (by decide), Option.bind_some, lib_cv (h.jg.lib hv), t1, bd_some]
      · obtain ⟨I3, t1, t2⟩ := M_fieldOf (J := J) (Z := Z) (nm := nI q) (t := d 0) (an := false) ((h1.up3 (x := nI 0)).mb hv) he
        refine ⟨I3, ?_, fvm_3.trans t2.fvm, by rw [t2 _ (by omega), up3]⟩
        unfold fX9_field fX9_field_29
        rw [M_cv h1.G, (h1.mb hv).isC (exC_lt he), bd_some, he, bIf, if_tt, wi_yes (by omega) (by omega), bd_some, bIf, if_tt, M_cv h1.G, M_ref0 h1.G, bd_some, bIf, if_ff, h1.G.p4, Option.bind_some, h1.G.ld3 (by decide), Option.bind_some, M_cv h1.G, up2_ne (by omega), h1.2.1.2.2.2.2.2.1, show fX9_fieldOf (A + 418) (nI v) (nI c) (nI q) (nI 0) (d 0) (mm g (up2 I1 (A + 418) 3 (nI 0)) J Z) = _ from t1, bd_some]
    · refine Agr.rfs h (i := 1) (e := 2) ⟨by decide, rfl⟩ (fun J Z => ⟨I, none, ?_, FvC.refl⟩) (fun I1 J Z h1 => ⟨nI 0, up2 I1 (A + 418) 3 (nI 2), ?_, fvm_3, up3⟩)
      · unfold fX8_field
        rw [h.jg.cv, C_libWith h hv he, bd_some, xp_r, z2, bd_some, xp_l, thr_m]
      · unfold fX9_field fX9_field_29
        rw [M_cv h1.G, (h1.mb hv).isC (exC_lt he), bd_some, he, bIf, if_tt, z3, bd_some, bIf, if_ff, M_cv h1.G, rf2 h1.G, bd_some, bIf, if_tt]
  · refine Agr.rfs h (i := 0) (e := 1) ⟨by decide, rfl⟩ (fun J Z => ⟨I, none, ?_, FvC.refl⟩) (fun I1 J Z h1 => ⟨nI 0, up2 I1 (A + 418) 3 (nI 1), ?_, fvm_3, up3⟩)
    · unfold fX8_field
      rw [h.jg.cv, q1, bd_some, xp_l]
    · unfold fX9_field fX9_field_29
      rw [M_cv h1.G, q2 I1 J Z h1, bd_some, bIf, if_ff, M_cv h1.G, rf1 h1.G, bd_some, bIf, if_tt]
theorem Q_method (h : Rel g A I w n P d) : Agr g A I (fX8_method A x y z) (fX9_method (A + 418) x y z) [1, 2] := by
  rcases lib_cases h x y with ⟨v, c, hv, he, rfl, rfl⟩ | ⟨q1, q2⟩
  · rcases nam_cases z with ⟨q, hq, rfl⟩ | ⟨z1, z2, z3⟩
    · have hT := h.2.2.2.2.2.2.1
      have hPt := h.2.2.2.2.2.2.2
      refine Agr.val h (b := oI (metS w v (nI q) (d 0) (d 2) (d 3) c)) (fun J Z => ⟨I, Z, ?_, FvC.refl⟩) (fun I1 J Z h1 => ?_)
      · unfold fX8_method
        rw [h.jg.cv, C_libWith h hv he, bd_some, xp_r, C_reqN hq, bd_some, xp_r, h.jg.p4, Option.bind_some, h.D (by decide), Option.bind_some, Option.bind_some, h.D (by decide), Option.bind_some, show fX4_signatureOf (nI q) (d 2) (d 3) (mm g I J Z) = some (sgI (nI q) (d 2) (d 3), mm g I J Z) from rfl, bd_some, h.jg.p4, Option.bind_some, h.D (by decide), Option.bind_some, show fX4_descriptorOf (sgI (nI q) (d 2) (d 3)) (d 0) (mm g I J Z) = some (dsI (sgI (nI q) (d 2) (d 3)) (d 0), mm g I J Z) from rfl, bd_some, lib_cv (h.jg.lib hv), C_methodFor (h.cb hv) hq hPt.t1 hPt.t2 hT.ty he, bd_some]
      · obtain ⟨r1, r2, r3, r4, r5, r6, r7, r8, r9⟩ := h1.2.1
        obtain ⟨I2, s1, s2, s3⟩ := M_wants0 (J := J) (Z := Z) (nm := nI q) (r := d 0) ((h1.up3 (x := nI 0)).mb hv) hPt r8 r9
        obtain ⟨I3, t1, t2⟩ := M_methodOf (J := J) (Z := Z) s3 he
        refine ⟨I3, ?_, fvm_3.trans (s2.fvm.trans t2.fw.fvm), by rw [t2.2 3 (by omega), s2.2 3 (by omega), up3]⟩
        unfold fX9_method fX9_method_29
        rw [M_cv h1.G, (h1.mb hv).isC (exC_lt he), bd_some, he, bIf, if_tt, wi_yes (by omega) (by omega), bd_some, bIf, if_tt, M_cv h1.G, M_ref0 h1.G, bd_some, bIf, if_ff, h1.G.p4, Option.bind_some, h1.G.ld3 (by decide), Option.bind_some, Option.bind_some, h1.G.ld3 (by decide), Option.bind_some, Option.bind_some, h1.G.ld3 (by decide), Option.bind_some, Option.bind_some, h1.G.ld3 (by decide), Option.bind_some, M_cv h1.G, up2_ne (by omega), r6, r7, s1, bd_some, M_cv h1.G, t1, bd_some]
    · refine Agr.rfs h (i := 1) (e := 2) ⟨by decide, rfl⟩ (fun J Z => ⟨I, none, ?_, FvC.refl⟩) (fun I1 J Z h1 => ⟨nI 0, up2 I1 (A + 418) 3 (nI 2), ?_, fvm_3, up3⟩)
      · unfold fX8_method
        rw [h.jg.cv, C_libWith h hv he, bd_some, xp_r, z2, bd_some, xp_l, thr_m]
      · unfold fX9_method fX9_method_29
        rw [M_cv h1.G, (h1.mb hv).isC (exC_lt he), bd_some, he, bIf, if_tt, z3, bd_some, bIf, if_ff, M_cv h1.G, rf2 h1.G, bd_some, bIf, if_tt]
  · refine Agr.rfs h (i := 0) (e := 1) ⟨by decide, rfl⟩ (fun J Z => ⟨I, none, ?_, FvC.refl⟩) (fun I1 J Z h1 => ⟨nI 0, up2 I1 (A + 418) 3 (nI 1), ?_, fvm_3, up3⟩)
    · unfold fX8_method
      rw [h.jg.cv, q1, bd_some, xp_l]
    · unfold fX9_method fX9_method_29
      rw [M_cv h1.G, q2 I1 J Z h1, bd_some, bIf, if_ff, M_cv h1.G, rf1 h1.G, bd_some, bIf, if_tt]

theorem C_val4 {a : Nat} (hL : LibG g a) (hm : m < 40) (hk : k < 10) : fX4_valueOf (a + 6) (nI m) (nI k) (mm g I J Z) = some (I (a + 6 + (k + 1)) m, mm g I J Z) := by
  unfold fX4_valueOf
  rcases (by omega : k = 0 ∨ k = 1 ∨ k = 2 ∨ k = 3 ∨ k = 4 ∨ k = 5 ∨ k = 6 ∨ k = 7 ∨ k = 8 ∨ k = 9) with rfl | rfl | rfl | rfl | rfl | rfl | rfl | rfl | rfl | rfl
  · rw [if_pos rfl, mem_p1 hL.mem, Option.bind_some, mem_l1 hL.mem hm, Option.bind_some]
  · rw [if_neg (by decide), if_pos rfl, mem_p2 hL.mem, Option.bind_some, mem_l2 hL.mem hm, Option.bind_some]
  · rw [if_neg (by decide), if_neg (by decide), if_pos rfl, mem_p3 hL.mem, Option.bind_some, mem_l3 hL.mem hm, Option.bind_some]
  · rw [if_neg (by decide), if_neg (by decide), if_neg (by decide), if_pos rfl, mem_p4 hL.mem, Option.bind_some, mem_l4 hL.mem hm, Option.bind_some]
  · rw [if_neg (by decide), if_neg (by decide), if_neg (by decide), if_neg (by decide), if_pos rfl, mem_p5 hL.mem, Option.bind_some, mem_l5 hL.mem hm, Option.bind_some]
  · rw [if_neg (by decide), if_neg (by decide), if_neg (by decide), if_neg (by decide), if_neg (by decide), if_pos rfl, mem_p6 hL.mem, Option.bind_some, mem_l6 hL.mem hm, Option.bind_some]
  · rw [if_neg (by decide), if_neg (by decide), if_neg (by decide), if_neg (by decide), if_neg (by decide), if_neg (by decide), if_pos rfl, mem_p7 hL.mem, Option.bind_some, mem_l7 hL.mem hm, Option.bind_some]
  · rw [if_neg (by decide), if_neg (by decide), if_neg (by decide), if_neg (by decide), if_neg (by decide), if_neg (by decide), if_neg (by decide), if_pos rfl, mem_p8 hL.mem, Option.bind_some, mem_l8 hL.mem hm, Option.bind_some]
  · rw [if_neg (by decide), if_neg (by decide), if_neg (by decide), if_neg (by decide), if_neg (by decide), if_neg (by decide), if_neg (by decide), if_neg (by decide), if_pos rfl, mem_p9 hL.mem, Option.bind_some, mem_l9 hL.mem hm, Option.bind_some]
  · rw [if_neg (by decide), if_neg (by decide), if_neg (by decide), if_neg (by decide), if_neg (by decide), if_neg (by decide), if_neg (by decide), if_neg (by decide), if_neg (by decide), mem_p10 hL.mem, Option.bind_some, mem_l10 hL.mem hm, Option.bind_some]

theorem M_told (h : Mb g R I w v) (hm : m < nmb w v) (hk : k < 10) : fX9_toldOf R (nI v) (nI m) (nI k) (mm g I J Z) = some (mV w v m (k + 1), mm g I J Z) := by
  unfold fX9_toldOf
  rw [h.cv, h.met hm, bd_some]
  rcases (by omega : k = 0 ∨ k = 1 ∨ k = 2 ∨ k = 3 ∨ k = 4 ∨ k = 5 ∨ k = 6 ∨ k = 7 ∨ k = 8 ∨ k = 9) with rfl | rfl | rfl | rfl | rfl | rfl | rfl | rfl | rfl | rfl
  · rw [if_pos rfl, h.cv, h.its hm (by decide), bd_some]; rfl
  · rw [if_neg (by decide), if_pos rfl, h.cv, h.its hm (by decide), bd_some]; rfl
  · rw [if_neg (by decide), if_neg (by decide), if_pos rfl, h.cv, h.its hm (by decide), bd_some]; rfl
  · rw [if_neg (by decide), if_neg (by decide), if_neg (by decide), if_pos rfl]
    rcases h.M.knd m hm with e | e
    · rw [e, decide_eq_false (by decide), bIf, if_ff]; show _ = some (mb w v m 0, _); rw [e]
    · rw [e, decide_eq_true rfl, bIf, if_tt]; show _ = some (mb w v m 0, _); rw [e]
  · rw [if_neg (by decide), if_neg (by decide), if_neg (by decide), if_neg (by decide), if_pos rfl, h.cv, h.its hm (by decide), bd_some]; rfl
  · rw [if_neg (by decide), if_neg (by decide), if_neg (by decide), if_neg (by decide), if_neg (by decide), if_pos rfl, h.cv, h.its hm (by decide), bd_some]; rfl
  · rw [if_neg (by decide), if_neg (by decide), if_neg (by decide), if_neg (by decide), if_neg (by decide), if_neg (by decide), if_pos rfl, h.cv, h.its hm (by decide), bd_some]; rfl
  · rw [if_neg (by decide), if_neg (by decide), if_neg (by decide), if_neg (by decide), if_neg (by decide), if_neg (by decide), if_neg (by decide), if_pos rfl]
    by_cases e : mb w v m 0 = nI 1
    · rw [decide_eq_true e, bIf, if_tt, h.cv, h.its hm (by decide), bd_some]; show _ = some ((if mb w v m 0 = nI 1 then mb w v m 6 else -2), _); rw [if_pos e]
    · rw [decide_eq_false e, bIf, if_ff]; show _ = some ((if mb w v m 0 = nI 1 then mb w v m 6 else -2), _); rw [if_neg e]
  · rw [if_neg (by decide), if_neg (by decide), if_neg (by decide), if_neg (by decide), if_neg (by decide), if_neg (by decide), if_neg (by decide), if_neg (by decide), if_pos rfl, h.cv, h.its hm (by decide), bd_some]; rfl
  · rw [if_neg (by decide), if_neg (by decide), if_neg (by decide), if_neg (by decide), if_neg (by decide), if_neg (by decide), if_neg (by decide), if_neg (by decide), if_neg (by decide), h.cv, h.its hm (by decide), bd_some]; rfl

theorem Q_memberInfo (h : Rel g A I w n P d) : Agr g A I (fX8_memberInfo A x y z) (fX9_memberInfo (A + 418) x y z) [1, 2] := by
  rcases mem_cases h x y with ⟨v, m, hv, hm, rfl, rfl⟩ | ⟨q1, q2⟩
  · rcases inf_cases z with ⟨k, hk, rfl⟩ | ⟨z1, z2⟩
    · have hM := (h.cb hv).M
      refine Agr.val h (b := mV w v m (k + 1)) (fun J Z => ⟨I, Z, ?_, FvC.refl⟩) (fun I1 J Z h1 => ⟨up2 I1 (A + 418) 3 (nI 0), ?_, fvm_3, up3⟩)
      · unfold fX8_memberInfo
        rw [h.jg.cv, C_libMem h hv hm, bd_some, xp_r, C_reqI hk, bd_some, xp_r, lib_p10 (h.jg.lib hv), Option.bind_some, mem_cv (h.jg.lib hv).mem, C_val4 (h.jg.lib hv) (hM.m40 hm) hk, bd_some, (h.cb hv).R.m.2 (k + 1) (by omega) (by omega) m hm]
      · unfold fX9_memberInfo fX9_memberInfo_29
        rw [M_cv h1.G, M_isMem h1 hv hm, bd_some, bIf, if_tt, wi_yes (by omega) (by omega), bd_some, bIf, if_tt, M_cv h1.G, M_ref0 h1.G, bd_some, bIf, if_ff, M_cv h1.G, M_told (h1.up3.mb hv) hm hk, bd_some]
    · refine Agr.rfs h (i := 1) (e := 2) ⟨by decide, rfl⟩ (fun J Z => ⟨I, none, ?_, FvC.refl⟩) (fun I1 J Z h1 => ⟨nI 0, up2 I1 (A + 418) 3 (nI 2), ?_, fvm_3, up3⟩)
      · unfold fX8_memberInfo
        rw [h.jg.cv, C_libMem h hv hm, bd_some, xp_r, z1, bd_some, xp_l, thr_m]
      · unfold fX9_memberInfo fX9_memberInfo_29
        rw [M_cv h1.G, M_isMem h1 hv hm, bd_some, bIf, if_tt, z2, bd_some, bIf, if_ff, M_cv h1.G, rf2 h1.G, bd_some, bIf, if_tt]
  · refine Agr.rfs h (i := 0) (e := 1) ⟨by decide, rfl⟩ (fun J Z => ⟨I, none, ?_, FvC.refl⟩) (fun I1 J Z h1 => ⟨nI 0, up2 I1 (A + 418) 3 (nI 1), ?_, fvm_3, up3⟩)
    · unfold fX8_memberInfo
      rw [h.jg.cv, q1, bd_some, xp_l]
    · unfold fX9_memberInfo fX9_memberInfo_29
      rw [M_cv h1.G, q2 I1 J Z h1, bd_some, bIf, if_ff, M_cv h1.G, rf1 h1.G, bd_some, bIf, if_tt]
/-- a method, not static, of a supertype of the plain class c -/
def slB (w : Nat → Int32) (v m c : Nat) : Bool := decide (mb w v m 0 = nI 1) && !bt (mb w v m 4) 0 && !itB w v c && stB w v c (ow w v m)
theorem C_selQ (h : Rel g A I w n P d) (hv : v < 2) (hm : m < nmb w v) (he : exC w v c = true) : fX8_selected A (nI v) (nI m) (nI c) (mm g I J Z) = if slB w v m c = true then some (.inr (if mb w v m 3 = 0 then nI m else oI (selM w v m (lnB w v c) (upS w v c))), mm g I J Z) else some (.inl 2, mm g I J none) := by
  have hb := h.cb hv
  have hL := h.jg.lib hv
  have hM := hb.M
  have m4 := hM.m40 hm
  have hc := exC_lt he
  obtain ⟨o1, o2, o3, o4⟩ := hM.own m hm
  unfold fX8_selected slB
  rw [h.jg.cv, C_libMem h hv hm, bd_some, xp_r, lib_cv hL, C_isThere hL hb.R hc, bd_some, he, bIf, if_tt, lib_p10 hL, Option.bind_some, mem_p4 hL.mem, Option.bind_some, mem_l4 hL.mem m4, Option.bind_some, hb.R.knd m hm]
  rcases hM.knd m hm with e0 | e0
  · rw [e0, if_pos (by decide), show decide (nI 0 = nI 1) = false from by decide, Bool.false_and, Bool.false_and, Bool.false_and, if_ff, thr_m]
  · rw [e0, if_neg (by decide), show decide (nI 1 = nI 1) = true from by decide, Bool.true_and, mem_p2 hL.mem, Option.bind_some, mem_l2 hL.mem m4, Option.bind_some, hb.R.flg m hm, (flg_if hM hm).1]
    cases hs : bt (mb w v m 4) 0
    · rw [if_ff, Bool.not_false, Bool.true_and, lib_cv hL, C_isI hL hb.R hc, bd_some, he, Bool.true_and, bIf]
      cases hi : itB w v c
      · rw [if_ff, Bool.not_false, Bool.true_and, lib_p8 hL, Option.bind_some, lib_l4 hL hc, Option.bind_some, mem_p5 hL.mem, Option.bind_some, mem_l5 hL.mem m4, Option.bind_some, hb.R.own m hm, o3, tst_if (by omega), hb.R.sty c _ hc (by omega), he, Bool.true_and]
        cases ht : stB w v c (ow w v m)
        · rw [if_ff, if_ff, thr_m]
        · rw [if_tt, if_tt, mem_p1 hL.mem, Option.bind_some, mem_l1 hL.mem m4, Option.bind_some, hb.R.acc m hm]
          by_cases ha : mb w v m 3 = 0
          · rw [if_pos ha, if_pos ha]
          · obtain ⟨q, hq, eq⟩ := hM.nam m hm
            have hPt := hM.par m hm
            have hd := hb.R.dsc m hm
            rw [if_pos e0, eq] at hd
            rw [if_neg ha, if_neg ha, mem_p12 hL.mem, Option.bind_some, mem_l12 hL.mem m4, Option.bind_some, hd, lib_p9 hL, Option.bind_some, lib_l5 hL hc, Option.bind_some, Option.bind_some, lib_l4 hL hc, Option.bind_some, lib_cv hL, C_selC hb hq hPt.t1 hPt.t2 (hM.typ m hm).ty he, bd_some]
            unfold selM
            rw [eq]
      · rw [if_tt, Bool.not_true, Bool.false_and, if_ff, thr_m]
    · rw [if_tt, Bool.not_true, Bool.false_and, Bool.false_and, if_ff, thr_m]
theorem Q_selected (h : Rel g A I w n P d) : Agr g A I (fX8_selected A x y z) (fX9_selected (A + 418) x y z) [1, 2] := by
  rcases mem_cases h x y with ⟨v, m, hv, hm, rfl, rfl⟩ | ⟨q1, q2⟩
  · have bad : (∀ J Z, fX8_selected A (nI v) (nI m) z (mm g I J Z) = some (.inl 1, mm g I J none)) → (∀ I1 J Z, MRel g A I1 w n P d → fX9_isClass (A + 418) (nI v) z (mm g I1 J Z) = some (bI false, mm g I1 J Z)) → Agr g A I (fX8_selected A (nI v) (nI m) z) (fX9_selected (A + 418) (nI v) (nI m) z) [1, 2] := by
      intro b1 b2
      refine Agr.rfs h (i := 0) (e := 1) ⟨by decide, rfl⟩ (fun J Z => ⟨I, none, b1 J Z, FvC.refl⟩) (fun I1 J Z h1 => ⟨nI 0, up2 I1 (A + 418) 3 (nI 1), ?_, fvm_3, up3⟩)
      unfold fX9_selected fX9_selected_22 fX9_selected_23 fX9_selected_80 fX9_selected_81 fX9_selected_103
      rw [M_cv h1.G, M_isMem h1 hv hm, bd_some, bIf, if_tt, M_cv h1.G, b2 I1 J Z h1, bd_some, bIf, if_ff, if_pos (by decide), if_pos (by decide), M_cv h1.G, rf1 h1.G, bd_some, bIf, if_tt]
    rcases int_x z 10 (by omega) with hz | ⟨c, hc, rfl⟩
    · refine bad (fun J Z => ?_) (fun I1 J Z h1 => M_isClassC h1.G hv hz)
      unfold fX8_selected
      rw [h.jg.cv, C_libMem h hv hm, bd_some, xp_r, lib_cv (h.jg.lib hv), C_isThereX hz, bd_some, bIf, if_ff, thr_m]
    · cases he : exC w v c
      · refine bad (fun J Z => ?_) (fun I1 J Z h1 => by rw [(h1.mb hv).isC hc, he])
        unfold fX8_selected
        rw [h.jg.cv, C_libMem h hv hm, bd_some, xp_r, lib_cv (h.jg.lib hv), C_isThere (h.jg.lib hv) (h.cb hv).R hc, bd_some, he, bIf, if_ff, thr_m]
      · obtain ⟨o1, o2, o3, o4⟩ := (h.cb hv).M.own m hm
        have ref : ∀ I1 J Z, MRel g A I1 w n P d → fX9_selected (A + 418) (nI v) (nI m) (nI c) (mm g I1 J Z) = fX9_selected_81 (A + 418) (nI v) (nI m) (nI c) (nI 1) (bI (slB w v m c)) (mm g I1 J Z) := by
          intro I1 J Z h1
          have hb := h1.mb hv
          unfold fX9_selected fX9_selected_23 fX9_selected_80
          rw [M_cv h1.G, M_isMem h1 hv hm, bd_some, bIf, if_tt, M_cv h1.G, hb.isC hc, bd_some, he, bIf, if_tt, if_neg (by decide), M_cv h1.G, hb.met hm, bd_some, bIf]
          unfold slB
          cases hk : decide (mb w v m 0 = nI 1)
          · rw [if_ff, Bool.false_and, Bool.false_and, Bool.false_and]; rfl
          · rw [if_tt, Bool.true_and, M_cv h1.G, hb.sta hm, bd_some, bIf]
            cases hs : bt (mb w v m 4) 0
            · rw [if_ff, Bool.not_false, Bool.true_and, M_cv h1.G, hb.itf hc, bd_some, bIf]
              cases hi : itB w v c
              · rw [if_ff, Bool.not_false, Bool.true_and, M_cv h1.G, hb.sup hc, bd_some, M_cv h1.G, hb.its hm (by decide), bd_some, o3, M_has (by omega), bd_some, bIf, spb hb.C he (by omega)]
                cases ht : stB w v c (ow w v m)
                · rw [if_ff]; rfl
                · rw [if_tt]; rfl
              · rw [if_tt, Bool.not_true, Bool.false_and]; rfl
            · rw [if_tt, Bool.not_true, Bool.false_and, Bool.false_and]; rfl
        cases hsl : slB w v m c
        · refine Agr.rfs h (i := 1) (e := 2) ⟨by decide, rfl⟩ (fun J Z => ⟨I, none, ?_, FvC.refl⟩) (fun I1 J Z h1 => ⟨nI 0, up2 I1 (A + 418) 3 (nI 2), ?_, fvm_3, up3⟩)
          · rw [C_selQ h hv hm he, hsl, if_ff]
          · rw [ref I1 J Z h1, hsl]
            unfold fX9_selected_81 fX9_selected_103
            rw [if_neg (by decide), bIf, if_ff, M_cv h1.G, rf2 h1.G, bd_some, bIf, if_tt]
        · have hb := h.mb hv
          by_cases ha : mb w v m 3 = 0
          · refine Agr.val h (b := nI m) (fun J Z => ⟨I, Z, ?_, FvC.refl⟩) (fun I1 J Z h1 => ⟨up2 I1 (A + 418) 3 (nI 0), ?_, fvm_3, up3⟩)
            · rw [C_selQ h hv hm he, hsl, if_tt, if_pos ha]
            · rw [ref I1 J Z h1, hsl]
              unfold fX9_selected_81 fX9_selected_103
              rw [if_neg (by decide), bIf, if_tt, M_cv h1.G, M_ref0 h1.G, bd_some, bIf, if_ff, M_cv h1.G, M_selFor0 (h1.up3.mb hv) hm ha, bd_some]
          · refine Agr.val h (b := oI (selM w v m (lnB w v c) (upS w v c))) (fun J Z => ⟨I, Z, ?_, FvC.refl⟩) (fun I1 J Z h1 => ?_)
            · rw [C_selQ h hv hm he, hsl, if_tt, if_neg ha]
            · obtain ⟨I3, t1, t2⟩ := M_selFor (J := J) (Z := Z) ((h1.up3 (x := nI 0)).mb hv) hm ha he
              refine ⟨I3, ?_, fvm_3.trans t2.fvm, by rw [t2.2 3 (by omega), up3]⟩
              rw [ref I1 J Z h1, hsl]
              unfold fX9_selected_81 fX9_selected_103
              rw [if_neg (by decide), bIf, if_tt, M_cv h1.G, M_ref0 h1.G, bd_some, bIf, if_ff, M_cv h1.G, t1, bd_some]
  · refine Agr.rfs h (i := 0) (e := 1) ⟨by decide, rfl⟩ (fun J Z => ⟨I, none, ?_, FvC.refl⟩) (fun I1 J Z h1 => ⟨nI 0, up2 I1 (A + 418) 3 (nI 1), ?_, fvm_3, up3⟩)
    · unfold fX8_selected
      rw [h.jg.cv, q1, bd_some, xp_l]
    · unfold fX9_selected fX9_selected_22 fX9_selected_23 fX9_selected_80 fX9_selected_81 fX9_selected_103
      rw [M_cv h1.G, q2 I1 J Z h1, bd_some, bIf, if_ff, if_pos (by decide), if_pos (by decide), M_cv h1.G, rf1 h1.G, bd_some, bIf, if_tt]
end Qa
