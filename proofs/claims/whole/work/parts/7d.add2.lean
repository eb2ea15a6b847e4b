section Ad
variable {g : Gr} {A R a b : Nat} {I I' : Mem} {J : Nat → Nat → Int64} {Z : Option Nat} {w w' : Nat → Int32} {n k v c m q K : Nat} {P : Nat → Nat → Int32} {d : Nat → Int32} {x y z : Int32} {x0 x1 x2 x3 x4 x5 x6 x7 : Int32}
/-- the class's append, at a library that holds the row -/
theorem C_opAdd {ac fl : Int32} (hb : CB g I a w v) (hK : K < 2) (hn : nmb w v < 40) {p : Nat} (hp : g.1 p = 6) (hpa : a + 20 ≤ p) (hd : ∀ i, i < 4 → I p i = d i) : ∃ I2, fX4_append (a + 6) (nI K) (nI c) (nI q) ac fl p (mm g I J Z) = some ((), mm g I2 J Z) ∧ (∀ x, x < a ∨ a + 20 ≤ x → I2 x = I x) ∧ RLib I2 a (neW w v K c q ac fl d) v ∧ I2 (a + 6) 0 = nI (nmb w v + 1) := by
  have h0 : I (a + 6) 0 = nI (nmb w v) := hb.R.size.trans hb.M.n
  have cl' : ∀ c' p, c' < 10 → p < 8 → cl (neW w v K c q ac fl d) v c' p = cl w v c' p := fun c p hc hp => addW_cl hc hp
  let I2 := up2 (apI I (a + 6) (nmb w v) (apV K (nI c) (nI q) ac fl d) [12, 11, 10, 9, 8, 7, 3, 2, 1, 6, 5, 4]) (a + 6) 0 (nI (nmb w v + 1))
  have fr : ∀ x, x ≠ a + 6 → (x < a + 6 + 1 ∨ a + 6 + 12 < x) → I2 x = I x := fun x h1 h2 => by
    show up2 _ _ _ _ x = _
    rw [up2_ne h1, ap_out (by decide) h2]
  have e : fX4_append (a + 6) (nI K) (nI c) (nI q) ac fl p (mm g I J Z) = some ((), mm g I2 J Z) := by
    rcases (by omega : K = 0 ∨ K = 1) with rfl | rfl
    · exact C_app0 hb.L.mem hn h0 hp (by omega) hd
    · exact C_app1 hb.L.mem hn h0 hp (by omega) hd
  have s0 : I2 (a + 6) 0 = nI (nmb w v + 1) := by show up2 _ _ _ _ (a + 6) 0 = _; rw [up2_at, if_pos rfl]
  refine ⟨I2, e, fun x hx => fr x (by omega) (by omega), RLib.of ((hb.R.c.cg cl').fr (fr _ (by omega) (by omega)) (fr _ (by omega) (by omega)) (fr _ (by omega) (by omega)) (fr _ (by omega) (by omega))) ((hb.R.s.cg hb.C (hb.C.cg cl') (fun c p hc hp => cl' c p hc (by omega))).fr (fr _ (by omega) (by omega)) (fr _ (by omega) (by omega))) ⟨s0.trans addW_mn.symm, fun j h1 h2 m hm => ?_⟩, s0⟩
  rw [nmb_of (n := nmb w v + 1) (by omega) (show mn (neW w v K c q ac fl d) v = nI (nmb w v + 1) from addW_mn)] at hm
  have hj : j ∈ [12, 11, 10, 9, 8, 7, 3, 2, 1, 6, 5, 4] := by
    rcases (by omega : j = 1 ∨ j = 2 ∨ j = 3 ∨ j = 4 ∨ j = 5 ∨ j = 6 ∨ j = 7 ∨ j = 8 ∨ j = 9 ∨ j = 10 ∨ j = 11 ∨ j = 12) with rfl | rfl | rfl | rfl | rfl | rfl | rfl | rfl | rfl | rfl | rfl | rfl <;> decide
  show up2 _ _ _ _ (a + 6 + j) m = _
  rw [up2_ne (by omega), ap_in h1 hj]
  by_cases q2 : m = nmb w v
  · rw [if_pos q2, q2, neW_mV hK h1 h2]
  · rw [if_neg q2, hb.R.m.2 j h1 h2 m (by omega)]
    exact (mV_cg (fun p hp => addW_old (by omega) hp) j).symm

theorem Q_addField (h : Rel g A I w n P d) {ac fl : Int32} : Agr g A I (fX8_addField A x y z ac fl) (fX9_addField (A + 418) x y z ac fl) [1, 2, 3] := by
  have fM : ∀ hh, fX9_addField (A + 418) x y z ac fl hh = cv 9 (A + 418) (fX9_added (A + 418) x (nI 0) y z ac fl) hh fun x_2 h => some (x_2, h) := fun hh => rfl
  have acc : ∀ hh, fX8_isAccess ac hh = some (bI (accB ac), hh) := fun hh => by
    unfold fX8_isAccess accB
    by_cases q1 : ac < 0
    · rw [if_pos q1, decide_eq_false (fun q => (Int32.not_lt.mpr q.1) q1)]; exact rz_n0 _
    · rw [if_neg q1]
      by_cases q2 : nI 3 < ac
      · rw [if_pos q2, decide_eq_false (fun q => (Int32.not_lt.mpr q.2) q2)]; exact rz_n0 _
      · rw [if_neg q2, decide_eq_true ⟨Int32.not_lt.mp q1, Int32.not_lt.mp q2⟩]; exact rz_n1 _
  have ref : ∀ {i : Nat}, i < 3 → ∀ I1 J Z, MRel g A I1 w n P d → fX9_added_152 (A + 418) x (nI 0) y z ac fl (A + 418) (nI (i + 1)) (mm g I1 J Z) = some (nI 0, mm g (up2 I1 (A + 418) 3 (nI (i + 1))) J Z) := by
    intro i hi I1 J Z h1
    unfold fX9_added_152
    rw [M_cv h1.G, M_refS h1.G hi, bd_some, bIf, if_tt]
  rcases lib_cases h x y with ⟨v, c, hv, he, rfl, rfl⟩ | ⟨q1, q2⟩
  · have hc := exC_lt he
    rcases nam_cases z with ⟨q, hq, rfl⟩ | ⟨z1, z2, z3⟩
    · have hb := h.cb hv
      have hPt := h.2.2.2.2.2.2.2
      cases hm : mayK w v 0 c ac fl
      · refine Agr.rfs h (i := 1) (e := 2) ⟨by decide, rfl⟩ (fun J Z => ⟨I, none, ?_, FvC.refl⟩) (fun I1 J Z h1 => ⟨nI 0, up2 I1 (A + 418) 3 (nI 2), ?_, fvm_3, up3⟩)
        · unfold fX8_addField
          rw [h.jg.cv, C_libWith h hv he, bd_some, xp_r, C_isName hq, bd_some, bIf, if_tt, acc, bd_some, bIf]
          unfold mayK at hm
          cases ha : accB ac
          · rw [if_ff, thr_m]
          · rw [ha, Bool.true_and, if_neg (by decide)] at hm
            rw [if_tt, lib_cv (h.jg.lib hv), C_alF hb he, bd_some, hm, bIf, if_ff, thr_m]
        · rw [fM, M_cv h1.G, M_addedC h1 hv he hq (by decide), show adC w v 0 c (nI q) ac fl (d 2) (d 3) = 1 + 1 from by unfold adC; rw [hm, if_pos rfl], ref (by decide) I1 J Z h1, bd_some]
      · have hmk : accB ac = true ∧ alF w v c ac fl = true := by
          unfold mayK at hm
          rw [if_neg (by decide)] at hm
          exact Bool.and_eq_true_iff.mp hm
        by_cases hcan : c = 0 ∨ 40 ≤ nmb w v ∨ hasK w v 0 c (nI q) (d 2) (d 3) = true
        · refine Agr.rfs h (i := 2) (e := 3) ⟨by decide, rfl⟩ (fun J Z => ⟨I, none, ?_, FvC.refl⟩) (fun I1 J Z h1 => ⟨nI 0, up2 I1 (A + 418) 3 (nI 3), ?_, fvm_3, up3⟩)
          · unfold fX8_addField
            rw [h.jg.cv, C_libWith h hv he, bd_some, xp_r, C_isName hq, bd_some, bIf, if_tt, acc, bd_some, bIf, hmk.1, if_tt, lib_cv (h.jg.lib hv), C_alF hb he, bd_some, hmk.2, bIf, if_tt]
            by_cases c0 : c = 0
            · rw [if_pos (show nI c = 0 by rw [c0]; rfl), thr_m]
            · rw [if_neg (nI_ne0 (by omega) (by omega)), lib_p10 (h.jg.lib hv), Option.bind_some, mem_cv (h.jg.lib hv).mem, C_hasF hb hc, bd_some, bIf]
              have hcan := hcan.resolve_left c0
              cases hx : exF w v c (nI q)
              · have hcan := hcan.resolve_right (by rw [show hasK w v 0 c (nI q) (d 2) (d 3) = exF w v c (nI q) from rfl, hx]; decide)
                rw [if_ff, lib_p10 (h.jg.lib hv), Option.bind_some, mem_cv (h.jg.lib hv).mem, C_full hb, bd_some, decide_eq_true hcan, bIf, if_tt, thr_m]
              · rw [if_tt, thr_m]
          · rw [fM, M_cv h1.G, M_addedC h1 hv he hq (by decide), show adC w v 0 c (nI q) ac fl (d 2) (d 3) = 2 + 1 from by unfold adC; rw [hm, if_neg (by decide), if_pos hcan], ref (by decide) I1 J Z h1, bd_some]
        · have c0 : c ≠ 0 := fun e => hcan (Or.inl e)
          have hn : nmb w v < 40 := Nat.lt_of_not_le (fun e => hcan (Or.inr (Or.inl e)))
          have hx : hasK w v 0 c (nI q) (d 2) (d 3) = false := by
            cases e : hasK w v 0 c (nI q) (d 2) (d 3)
            · rfl
            · exact absurd (Or.inr (Or.inr e)) hcan
          refine Agr.lib h (v := v) (w' := neW w v 0 c q ac fl d) (b := nI (nmb w v)) hv (fun i hi => addW_out hn hi) (hb.C.cg (fun c p hc hp => addW_cl hc hp)) (neW_WM hb.M he c0 hq (by decide) hn hm hx h.2.2.2.2.2.2.1 hPt)
            (fun h => (gP 2 (A + 1 + 3 + 20 * v) 10 h).bind fun a_21 => (gP 8 A 4 h).bind fun a_22 => cv 4 a_21 (fX4_append a_21 (nI 0) (nI c) (nI q) ac fl a_22) h fun _ h => (gP 2 (A + 1 + 3 + 20 * v) 10 h).bind fun a_23 => (gI 4 a_23 0 h).bind fun x_24 => some (.inr (x_24 - nI 1), h))
            (fun h => bd ((gP 9 (A + 418) 4 h).bind fun a_63 => (ldI a_63 (nI 0) h).bind fun x_64 => if nI 0 = nI 1 then ((gP 9 (A + 418) 4 h).bind fun a_65 => (ldI a_65 (nI 1) h).bind fun x_66 => fX9_added_195 (A + 418) (nI v) (nI 0) (A + 418) (nI v) (nI 0) (nI c) (nI q) ac fl x_64 x_66 h) else fX9_added_195 (A + 418) (nI v) (nI 0) (A + 418) (nI v) (nI 0) (nI c) (nI q) ac fl x_64 (nI 0) h) fun x_2 h => some (x_2, h)) (fun J Z => ?_) (fun I1 J Z hb1 hd => ?_) (fun I1 J Z h1 => ?_) (fun I1 J Z h1 => ?_)
          · unfold fX8_addField
            rw [h.jg.cv, C_libWith h hv he, bd_some, xp_r, C_isName hq, bd_some, bIf, if_tt, acc, bd_some, bIf, hmk.1, if_tt, lib_cv (h.jg.lib hv), C_alF hb he, bd_some, hmk.2, bIf, if_tt, if_neg (nI_ne0 (by omega) (by omega)), lib_p10 (h.jg.lib hv), Option.bind_some, mem_cv (h.jg.lib hv).mem, C_hasF hb hc, bd_some, bIf, show exF w v c (nI q) = false from hx, if_ff, lib_p10 (h.jg.lib hv), Option.bind_some, mem_cv (h.jg.lib hv).mem, C_full hb, bd_some, decide_eq_false (by omega), bIf, if_ff, h.jg.cv]
          · obtain ⟨I2, t1, t2, t3, t4⟩ := C_opAdd (J := J) (Z := Z) (K := 0) (c := c) (q := q) (ac := ac) (fl := fl) (hb1 v hv) (by decide) hn h.jg.D (by omega) hd
            refine ⟨I2, ?_, t2, t3⟩
            show (gP 2 (A + 1 + 3 + 20 * v) 10 (mm g I1 J Z)).bind _ = _
            rw [lib_p10 (h.jg.lib hv), Option.bind_some, h.jg.p4, Option.bind_some, mem_cv (h.jg.lib hv).mem, t1, bd_some, lib_p10 (h.jg.lib hv), Option.bind_some, mem_gI (h.jg.lib hv).mem, Option.bind_some, t4, show nI (nmb w v + 1) - nI 1 = nI (nmb w v) from nI_pred _]
          · obtain ⟨I2, s1, s2, s3, s4⟩ := M_save (J := J) (Z := Z) (h1.up3 (x := nI 0)).G (h1.up3 (x := nI 0)).2.1
            rw [fM, M_cv h1.G, M_addedC h1 hv he hq (by decide), show adC w v 0 c (nI q) ac fl (d 2) (d 3) = 0 from by unfold adC; rw [hm, if_neg (by decide), if_neg hcan]]
            unfold fX9_added_152
            rw [M_cv h1.G, M_ref0 h1.G, bd_some, bIf, if_ff, M_cv h1.G, s1, bd_some, bd_some]
          · obtain ⟨I2, t1, t2, t3⟩ := M_opAdd (J := J) (Z := Z) (K := 0) (c := c) (q := q) (ac := ac) (fl := fl) h1 hv (by decide) hn
            exact ⟨I2, by show bd _ _ = _; rw [t1, bd_some], t2, t3⟩
    · refine Agr.rfs h (i := 1) (e := 2) ⟨by decide, rfl⟩ (fun J Z => ⟨I, none, ?_, FvC.refl⟩) (fun I1 J Z h1 => ⟨nI 0, up2 I1 (A + 418) 3 (nI 2), ?_, fvm_3, up3⟩)
      · unfold fX8_addField
        rw [h.jg.cv, C_libWith h hv he, bd_some, xp_r, z1, bd_some, bIf, if_ff, thr_m]
      · rw [fM, M_cv h1.G]
        unfold fX9_added fX9_added_62 fX9_added_63 fX9_added_120 fX9_added_121
        rw [M_cv h1.G, (h1.mb hv).isC hc, bd_some, he, bIf, if_tt, z3, bd_some, bIf, if_ff, if_pos (by decide), if_neg (by decide), if_pos (by decide), ref (i := 1) (by decide) I1 J Z h1, bd_some]
  · refine Agr.rfs h (i := 0) (e := 1) ⟨by decide, rfl⟩ (fun J Z => ⟨I, none, ?_, FvC.refl⟩) (fun I1 J Z h1 => ⟨nI 0, up2 I1 (A + 418) 3 (nI 1), ?_, fvm_3, up3⟩)
    · unfold fX8_addField
      rw [h.jg.cv, q1, bd_some, xp_l]
    · rw [fM, M_cv h1.G]
      unfold fX9_added fX9_added_62 fX9_added_63 fX9_added_120 fX9_added_121
      rw [M_cv h1.G, q2 I1 J Z h1, bd_some, bIf, if_ff, if_pos (by decide), if_pos (by decide), ref (i := 0) (by decide) I1 J Z h1, bd_some]

theorem Q_addMethod (h : Rel g A I w n P d) {ac fl : Int32} : Agr g A I (fX8_addMethod A x y z ac fl) (fX9_addMethod (A + 418) x y z ac fl) [1, 2, 3] := by
  have fM : ∀ hh, fX9_addMethod (A + 418) x y z ac fl hh = cv 9 (A + 418) (fX9_added (A + 418) x (nI 1) y z ac fl) hh fun x_2 h => some (x_2, h) := fun hh => rfl
  have acc : ∀ hh, fX8_isAccess ac hh = some (bI (accB ac), hh) := fun hh => by
    unfold fX8_isAccess accB
    by_cases q1 : ac < 0
    · rw [if_pos q1, decide_eq_false (fun q => (Int32.not_lt.mpr q.1) q1)]; exact rz_n0 _
    · rw [if_neg q1]
      by_cases q2 : nI 3 < ac
      · rw [if_pos q2, decide_eq_false (fun q => (Int32.not_lt.mpr q.2) q2)]; exact rz_n0 _
      · rw [if_neg q2, decide_eq_true ⟨Int32.not_lt.mp q1, Int32.not_lt.mp q2⟩]; exact rz_n1 _
  have ref : ∀ {i : Nat}, i < 3 → ∀ I1 J Z, MRel g A I1 w n P d → fX9_added_152 (A + 418) x (nI 1) y z ac fl (A + 418) (nI (i + 1)) (mm g I1 J Z) = some (nI 0, mm g (up2 I1 (A + 418) 3 (nI (i + 1))) J Z) := by
    intro i hi I1 J Z h1
    unfold fX9_added_152
    rw [M_cv h1.G, M_refS h1.G hi, bd_some, bIf, if_tt]
  rcases lib_cases h x y with ⟨v, c, hv, he, rfl, rfl⟩ | ⟨q1, q2⟩
  · have hc := exC_lt he
    rcases nam_cases z with ⟨q, hq, rfl⟩ | ⟨z1, z2, z3⟩
    · have hb := h.cb hv
      have hPt := h.2.2.2.2.2.2.2
      cases hm : mayK w v 1 c ac fl
      · refine Agr.rfs h (i := 1) (e := 2) ⟨by decide, rfl⟩ (fun J Z => ⟨I, none, ?_, FvC.refl⟩) (fun I1 J Z h1 => ⟨nI 0, up2 I1 (A + 418) 3 (nI 2), ?_, fvm_3, up3⟩)
        · unfold fX8_addMethod
          rw [h.jg.cv, C_libWith h hv he, bd_some, xp_r, C_isName hq, bd_some, bIf, if_tt, acc, bd_some, bIf]
          unfold mayK at hm
          cases ha : accB ac
          · rw [if_ff, thr_m]
          · rw [ha, Bool.true_and, if_pos rfl] at hm
            rw [if_tt, lib_cv (h.jg.lib hv), C_alM hb he, bd_some, hm, bIf, if_ff, thr_m]
        · rw [fM, M_cv h1.G, M_addedC h1 hv he hq (by decide), show adC w v 1 c (nI q) ac fl (d 2) (d 3) = 1 + 1 from by unfold adC; rw [hm, if_pos rfl], ref (by decide) I1 J Z h1, bd_some]
      · have hmk : accB ac = true ∧ alM w v c ac fl = true := by
          unfold mayK at hm
          rw [if_pos rfl] at hm
          exact Bool.and_eq_true_iff.mp hm
        by_cases hcan : c = 0 ∨ 40 ≤ nmb w v ∨ hasK w v 1 c (nI q) (d 2) (d 3) = true
        · refine Agr.rfs h (i := 2) (e := 3) ⟨by decide, rfl⟩ (fun J Z => ⟨I, none, ?_, FvC.refl⟩) (fun I1 J Z h1 => ⟨nI 0, up2 I1 (A + 418) 3 (nI 3), ?_, fvm_3, up3⟩)
          · unfold fX8_addMethod
            rw [h.jg.cv, C_libWith h hv he, bd_some, xp_r, C_isName hq, bd_some, bIf, if_tt, acc, bd_some, bIf, hmk.1, if_tt, lib_cv (h.jg.lib hv), C_alM hb he, bd_some, hmk.2, bIf, if_tt, h.jg.p4, Option.bind_some, h.D (by decide), Option.bind_some, Option.bind_some, h.D (by decide), Option.bind_some, show ∀ hh, fX4_signatureOf (nI q) (d 2) (d 3) hh = some (sgI (nI q) (d 2) (d 3), hh) from fun _ => rfl, bd_some]
            by_cases c0 : c = 0
            · rw [if_pos (show nI c = 0 by rw [c0]; rfl), thr_m]
            · rw [if_neg (nI_ne0 (by omega) (by omega)), lib_p10 (h.jg.lib hv), Option.bind_some, mem_cv (h.jg.lib hv).mem, C_hasM hb hc hq hPt.t1 hPt.t2, bd_some, bIf]
              have hcan := hcan.resolve_left c0
              cases hx : exM w v c (nI q) (d 2) (d 3)
              · have hcan := hcan.resolve_right (by rw [show hasK w v 1 c (nI q) (d 2) (d 3) = exM w v c (nI q) (d 2) (d 3) from rfl, hx]; decide)
                rw [if_ff, lib_p10 (h.jg.lib hv), Option.bind_some, mem_cv (h.jg.lib hv).mem, C_full hb, bd_some, decide_eq_true hcan, bIf, if_tt, thr_m]
              · rw [if_tt, thr_m]
          · rw [fM, M_cv h1.G, M_addedC h1 hv he hq (by decide), show adC w v 1 c (nI q) ac fl (d 2) (d 3) = 2 + 1 from by unfold adC; rw [hm, if_neg (by decide), if_pos hcan], ref (by decide) I1 J Z h1, bd_some]
        · have c0 : c ≠ 0 := fun e => hcan (Or.inl e)
          have hn : nmb w v < 40 := Nat.lt_of_not_le (fun e => hcan (Or.inr (Or.inl e)))
          have hx : hasK w v 1 c (nI q) (d 2) (d 3) = false := by
            cases e : hasK w v 1 c (nI q) (d 2) (d 3)
            · rfl
            · exact absurd (Or.inr (Or.inr e)) hcan
          refine Agr.lib h (v := v) (w' := neW w v 1 c q ac fl d) (b := nI (nmb w v)) hv (fun i hi => addW_out hn hi) (hb.C.cg (fun c p hc hp => addW_cl hc hp)) (neW_WM hb.M he c0 hq (by decide) hn hm hx h.2.2.2.2.2.2.1 hPt)
            (fun h => (gP 2 (A + 1 + 3 + 20 * v) 10 h).bind fun a_21 => (gP 8 A 4 h).bind fun a_22 => cv 4 a_21 (fX4_append a_21 (nI 1) (nI c) (nI q) ac fl a_22) h fun _ h => (gP 2 (A + 1 + 3 + 20 * v) 10 h).bind fun a_23 => (gI 4 a_23 0 h).bind fun x_24 => some (.inr (x_24 - nI 1), h))
            (fun h => bd ((gP 9 (A + 418) 4 h).bind fun a_63 => (ldI a_63 (nI 0) h).bind fun x_64 => if nI 1 = nI 1 then ((gP 9 (A + 418) 4 h).bind fun a_65 => (ldI a_65 (nI 1) h).bind fun x_66 => fX9_added_195 (A + 418) (nI v) (nI 1) (A + 418) (nI v) (nI 1) (nI c) (nI q) ac fl x_64 x_66 h) else fX9_added_195 (A + 418) (nI v) (nI 1) (A + 418) (nI v) (nI 1) (nI c) (nI q) ac fl x_64 (nI 0) h) fun x_2 h => some (x_2, h)) (fun J Z => ?_) (fun I1 J Z hb1 hd => ?_) (fun I1 J Z h1 => ?_) (fun I1 J Z h1 => ?_)
          · unfold fX8_addMethod
            rw [h.jg.cv, C_libWith h hv he, bd_some, xp_r, C_isName hq, bd_some, bIf, if_tt, acc, bd_some, bIf, hmk.1, if_tt, lib_cv (h.jg.lib hv), C_alM hb he, bd_some, hmk.2, bIf, if_tt, h.jg.p4, Option.bind_some, h.D (by decide), Option.bind_some, Option.bind_some, h.D (by decide), Option.bind_some, show ∀ hh, fX4_signatureOf (nI q) (d 2) (d 3) hh = some (sgI (nI q) (d 2) (d 3), hh) from fun _ => rfl, bd_some, if_neg (nI_ne0 (by omega) (by omega)), lib_p10 (h.jg.lib hv), Option.bind_some, mem_cv (h.jg.lib hv).mem, C_hasM hb hc hq hPt.t1 hPt.t2, bd_some, bIf, show exM w v c (nI q) (d 2) (d 3) = false from hx, if_ff, lib_p10 (h.jg.lib hv), Option.bind_some, mem_cv (h.jg.lib hv).mem, C_full hb, bd_some, decide_eq_false (by omega), bIf, if_ff, h.jg.cv]
          · obtain ⟨I2, t1, t2, t3, t4⟩ := C_opAdd (J := J) (Z := Z) (K := 1) (c := c) (q := q) (ac := ac) (fl := fl) (hb1 v hv) (by decide) hn h.jg.D (by omega) hd
            refine ⟨I2, ?_, t2, t3⟩
            show (gP 2 (A + 1 + 3 + 20 * v) 10 (mm g I1 J Z)).bind _ = _
            rw [lib_p10 (h.jg.lib hv), Option.bind_some, h.jg.p4, Option.bind_some, mem_cv (h.jg.lib hv).mem, t1, bd_some, lib_p10 (h.jg.lib hv), Option.bind_some, mem_gI (h.jg.lib hv).mem, Option.bind_some, t4, show nI (nmb w v + 1) - nI 1 = nI (nmb w v) from nI_pred _]
          · obtain ⟨I2, s1, s2, s3, s4⟩ := M_save (J := J) (Z := Z) (h1.up3 (x := nI 0)).G (h1.up3 (x := nI 0)).2.1
            rw [fM, M_cv h1.G, M_addedC h1 hv he hq (by decide), show adC w v 1 c (nI q) ac fl (d 2) (d 3) = 0 from by unfold adC; rw [hm, if_neg (by decide), if_neg hcan]]
            unfold fX9_added_152
            rw [M_cv h1.G, M_ref0 h1.G, bd_some, bIf, if_ff, M_cv h1.G, s1, bd_some, bd_some]
          · obtain ⟨I2, t1, t2, t3⟩ := M_opAdd (J := J) (Z := Z) (K := 1) (c := c) (q := q) (ac := ac) (fl := fl) h1 hv (by decide) hn
            exact ⟨I2, by show bd _ _ = _; rw [t1, bd_some], t2, t3⟩
    · refine Agr.rfs h (i := 1) (e := 2) ⟨by decide, rfl⟩ (fun J Z => ⟨I, none, ?_, FvC.refl⟩) (fun I1 J Z h1 => ⟨nI 0, up2 I1 (A + 418) 3 (nI 2), ?_, fvm_3, up3⟩)
      · unfold fX8_addMethod
        rw [h.jg.cv, C_libWith h hv he, bd_some, xp_r, z1, bd_some, bIf, if_ff, thr_m]
      · rw [fM, M_cv h1.G]
        unfold fX9_added fX9_added_62 fX9_added_63 fX9_added_120 fX9_added_121
        rw [M_cv h1.G, (h1.mb hv).isC hc, bd_some, he, bIf, if_tt, z3, bd_some, bIf, if_ff, if_pos (by decide), if_neg (by decide), if_pos (by decide), ref (i := 1) (by decide) I1 J Z h1, bd_some]
  · refine Agr.rfs h (i := 0) (e := 1) ⟨by decide, rfl⟩ (fun J Z => ⟨I, none, ?_, FvC.refl⟩) (fun I1 J Z h1 => ⟨nI 0, up2 I1 (A + 418) 3 (nI 1), ?_, fvm_3, up3⟩)
    · unfold fX8_addMethod
      rw [h.jg.cv, q1, bd_some, xp_l]
    · rw [fM, M_cv h1.G]
      unfold fX9_added fX9_added_62 fX9_added_63 fX9_added_120 fX9_added_121
      rw [M_cv h1.G, q2 I1 J Z h1, bd_some, bIf, if_ff, if_pos (by decide), if_pos (by decide), ref (i := 0) (by decide) I1 J Z h1, bd_some]

end Ad
