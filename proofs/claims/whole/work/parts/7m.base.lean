/-! ===== setBase ===== -/
section Sb
variable {g : Gr} {A R p q : Nat} {I I' : Mem} {J : Nat → Nat → Int64} {Z : Option Nat} {w w' : Nat → Int32} {n n' v u c b : Nat} {P : Nat → Nat → Int32} {d : Nat → Int32} {x y z nm pk f s : Int32} {k kk : Nat → Int32}
def bsR (k : Nat → Int32) (b : Nat) : Nat → Int32 := fun j => if j = 4 then nI b else k j
theorem bs_CK {b0 : Nat} (h : CK k u c b0) (hb : b < 10) : CK (bsR k b) u c b := by
  obtain ⟨h1, h2, h3, h4, h5, h6, h7, h8⟩ := h
  exact ⟨h1, h2, hb, h4, h5, rfl, h7, h8⟩
theorem sb_lo {i : Nat} (h : i < 963) : sbW w kk q i = w i := by unfold sbW; rw [if_neg (by omega)]
theorem sb_old {r : Nat} (hk : r ≠ q) {j : Nat} (hj : j < 16) : rowC (sbW w kk q) r j = rowC w r j := by
  show sbW w kk q (963 + 16 * r + j) = _
  unfold sbW
  rw [if_neg (by omega)]; rfl
theorem sb_new {j : Nat} (hj : j < 16) : rowC (sbW w kk q) q j = kk j := by
  show sbW w kk q (963 + 16 * q + j) = _
  unfold sbW
  rw [if_pos (by omega), show 963 + 16 * q + j - (963 + 16 * q) = j from by omega]
theorem sb_z (hq : q < 12) (hz : ∀ i, 1155 ≤ i → w i = 0) : ∀ i, 1155 ≤ i → sbW w kk q i = 0 := fun i hi => by
  unfold sbW
  rw [if_neg (by omega)]
  exact hz i hi
theorem sb_WS (h : WS w) (hk : CKE kk) : WS (sbW w kk q) := by
  refine h.cli (n' := ncl w) (fun i hi => sb_lo (by omega)) h.2.1 ((sb_lo (by omega)).trans h.2.2.1) (fun r hr => ?_)
  by_cases e : r = q
  · subst e; exact hk.ag (fun j hj => sb_new hj)
  · exact (h.2.2.2 r hr).ag (fun j hj => sb_old e hj)
theorem M_isBaseX (h : Mb g R I w v) (hy : y < 0 ∨ nI 10 ≤ y) : fX9_isBase R (nI v) y (mm g I J Z) = some (bI false, mm g I J Z) := by
  unfold fX9_isBase
  rw [h.cv, M_isClassC h.G h.v2 hy, bd_some, bIf, if_ff, rz_n0]
theorem Q_setBase (h : Rel g A I w n P d) : Agr g A I (fX8_setBase A x y) (fX9_setBase (A + 418) x y) [1, 2] := by
  have ref : ∀ {i : Nat} {v5 : Int32}, i < 3 → ∀ I1 J Z, MRel g A I1 w n P d → fX9_setBase_79 (A + 418) x v5 (A + 418) (nI (i + 1)) (mm g I1 J Z) = some (nI 0, mm g (up2 I1 (A + 418) 3 (nI (i + 1))) J Z) := by
    intro i v5 hi I1 J Z h1
    unfold fX9_setBase_79
    rw [M_cv h1.G, M_refS h1.G hi, bd_some, bIf, if_tt]
  rcases cli_cases h x with ⟨q, hq, rfl⟩ | ⟨q1, q2, q3⟩
  · have hq12 : q < 12 := by have := h.nc; omega
    obtain ⟨u, c, b0, hK0, hS0⟩ := h.W.2.2.2 q hq
    have hRK := h.S.2.2 q hq
    have hp := h.jg.pb.1
    have hc := h.jg.S.cli hq12
    -- the reference up to the compiler
    have mtake : ∀ I1 J Z, MRel g A I1 w n P d → ∃ I2, fX9_takes (A + 418) (nI q) (mm g I1 J Z) = some ((), mm g I2 J Z) ∧ FvM (A + 418) I1 (up2 I2 (A + 418 + 5) 4 y) ∧ I2 (A + 418 + 5) 4 = rowC w q 4 ∧ ∀ j, j < 16 → (up2 I2 (A + 418 + 5) 4 y) (A + 418 + 5) j = if j = 4 then y else rowC w q j := by
      intro I1 J Z h1
      obtain ⟨I2, a1, a2, a3⟩ := M_take (J := J) (Z := Z) h1.G h1.row hq12
      refine ⟨I2, a1, fvm_5 (fun y hy => by rw [up2_ne hy]; exact a2 y hy), a3 4 (by decide), fun j hj => ?_⟩
      rw [up2_at]
      by_cases e : j = 4
      · rw [if_pos e, if_pos e]
      · rw [if_neg e, if_neg e]; exact a3 j hj
    have m57 : ∀ {v5 : Int32} I1 J Z, MRel g A I1 w n P d → fX9_setBase_57 (A + 418) (nI q) (bI true) v5 (mm g I1 J Z) = some (nI 0, mm g (up2 I1 (A + 418) 3 (nI 2)) J Z) := by
      intro v5 I1 J Z h1
      unfold fX9_setBase_57 fX9_setBase_58 fX9_setBase_60
      rw [bt1, if_neg (by decide), if_pos nI_0]
      exact ref (i := 1) (by decide) I1 J Z h1
    rcases int_x y 10 (by omega) with hy | ⟨b, hb, rfl⟩
    · refine Agr.rfs h (i := 1) (e := 2) ⟨by decide, rfl⟩ (fun J Z => ⟨I, none, ?_, FvC.refl⟩) (fun I1 J Z h1 => ?_)
      · unfold fX8_setBase
        rw [h.jg.cv, C_cliAt h hq, bd_some, xp_r, h.jg.V.p6, Option.bind_some, h.jg.V.c0, Option.bind_some, gI_m hc.1, Option.bind_some, cv_m (CQ.of0 h.jg.V h.jg.pb).1.1, C_baseX (CQ.of0 h.jg.V h.jg.pb) h.cb0 hy, bd_some, bIf, if_ff, thr_m]
      · obtain ⟨I2, a1, a2, a3, a4⟩ := mtake I1 J Z h1
        have h2 := h1.fvm a2
        refine ⟨nI 0, up2 (up2 I2 (A + 418 + 5) 4 y) (A + 418) 3 (nI 2), ?_, a2.trans fvm_3, up3⟩
        unfold fX9_setBase
        rw [M_cv h1.G, M_isCli h1 hq, bd_some, bIf, if_tt, M_cv h1.G, a1, bd_some, h1.G.p15, Option.bind_some, h1.G.cl (by decide), Option.bind_some, Option.bind_some, h1.G.st5 (by decide), Option.bind_some, M_cv h1.G, M_isBaseX (h2.mb (v := 0) (by omega)) hy, bd_some, bIf, if_ff]
        exact m57 _ J Z h2
    · have hKb := bs_CK hK0 hb
      -- the reference's row
      have mrow : ∀ I2 : Mem, (∀ j, j < 16 → (up2 I2 (A + 418 + 5) 4 (nI b)) (A + 418 + 5) j = if j = 4 then nI b else rowC w q j) → ∀ j, j < 16 → (up2 I2 (A + 418 + 5) 4 (nI b)) (A + 418 + 5) j = bsR (rowC w q) b j := fun I2 a4 j hj => a4 j hj
      by_cases eb : baB w 0 b (rowC w q 3) = true
      · -- the class up to the compiler
        have cpr : ∀ J Z, ∃ I3, FvC A I I3 ∧ (∀ j, j < 8 → I3 (A + 405) j = bsR (rowC w q) b j) ∧ ((comS w 0 (bsR (rowC w q) b) u c b).1 = nI 0 → SymR I3 (A + 405 + 1) (comS w 0 (bsR (rowC w q) b) u c b).2) ∧ fX8_setBase A (nI q) (nI b) (mm g I J Z) = if decide ((comS w 0 (bsR (rowC w q) b) u c b).1 = nI 0) = true then (cv 8 A (fX8_saveState A) (mm g I3 J Z) fun _ h => (gI 0 (A + 1 + 43 + 2 * q) 4 h).bind fun x_19 => (gP 8 A 5 h).bind fun a_20 => cv 0 (A + 1 + 43 + 2 * q) (fX0_copyFrom (A + 1 + 43 + 2 * q) a_20) h fun _ h => some ((Sum.inr x_19 : (Nat ⊕ Int32)), h)) else some (.inl 2, mm g I3 J none) := by
          intro J Z
          obtain ⟨I1, a1, a2, a3, a4⟩ := C_clCopy (I := I) (J := J) (Z := Z) (p := A + 405) (r := A + 1 + 43 + 2 * q) hp hc (by omega) (by omega) (by omega) (by rw [hRK.s0]; exact hS0.1)
          have f2 : FvC A I (up2 I1 (A + 405) 4 (nI b)) := fun y h1 h2 h3 => by rw [up2_ne (by omega)]; exact a2 y (by omega) (by omega)
          have hk2 : ∀ j, j < 8 → (up2 I1 (A + 405) 4 (nI b)) (A + 405) j = bsR (rowC w q) b j := fun j hj => by
            rw [up2_at]
            unfold bsR
            by_cases e : j = 4
            · rw [if_pos e, if_pos e]
            · rw [if_neg e, if_neg e, a3 j hj]; exact hRK.1 j hj
          obtain ⟨I3, b1, b2, b3, b4, b5⟩ := C_cprobe (J := J) (Z := Z) (h.fvc f2) hk2 hKb
          refine ⟨I3, f2.trans b2, b3, b4, ?_⟩
          unfold fX8_setBase
          rw [h.jg.cv, C_cliAt h hq, bd_some, xp_r, h.jg.V.p6, Option.bind_some, h.jg.V.c0, Option.bind_some, gI_m hc.1, Option.bind_some, cv_m (CQ.of0 h.jg.V h.jg.pb).1.1, hRK.1 3 (by decide), C_base (CQ.of0 h.jg.V h.jg.pb) h.cb0 hb, bd_some, eb, bIf, if_tt, h.jg.p5, Option.bind_some, cln_cv hp, a1, bd_some, h.jg.p5, Option.bind_some, pI_m hp.1, Option.bind_some, h.jg.cv, b1, bd_some, bIf]
          cases decide ((comS w 0 (bsR (rowC w q) b) u c b).1 = nI 0)
          · rw [if_ff, if_ff, thr_m]
          · rw [if_tt, if_tt]
        have mpr : ∀ I1 J Z, MRel g A I1 w n P d → ∃ I3, FvM (A + 418) I1 I3 ∧ (∀ j, j < 8 → I3 (A + 418 + 5) j = bsR (rowC w q) b j) ∧ (∀ j, j < 8 → I3 (A + 418 + 6) j = (comS w 0 (bsR (rowC w q) b) u c b).2 j) ∧ fX9_setBase (A + 418) (nI q) (nI b) (mm g I1 J Z) = if decide ((comS w 0 (bsR (rowC w q) b) u c b).1 = nI 0) = true then fX9_setBase_58 (A + 418) (nI q) (bI true) (rowC w q 4) (nI 1) (mm g I3 J Z) else some (nI 0, mm g (up2 I3 (A + 418) 3 (nI 2)) J Z) := by
          intro I1 J Z h1
          obtain ⟨I2, a1, a2, a3, a4⟩ := mtake I1 J Z h1
          have h2 := h1.fvm a2
          have hr := mrow I2 a4
          obtain ⟨I3, b1, b2, b3⟩ := M_comp (J := J) (Z := Z) (h2.mb (v := 0) (by omega)) (hKb.cg hr)
          rw [comS_cg hr] at b1 b3
          have h3 := h2.fvm b2.fvr.1
          refine ⟨I3, a2.trans b2.fvr.1, fun j hj => by rw [b2.r5]; exact hr j (by omega), b3, ?_⟩
          unfold fX9_setBase
          rw [M_cv h1.G, M_isCli h1 hq, bd_some, bIf, if_tt, M_cv h1.G, a1, bd_some, h1.G.p15, Option.bind_some, h1.G.cl (by decide), Option.bind_some, Option.bind_some, h1.G.st5 (by decide), Option.bind_some, M_cv h1.G, M_isBase (h2.mb (v := 0) (by omega)) hb, hr 3 (by decide), show bsR (rowC w q) b 3 = rowC w q 3 from rfl, eb, bd_some, bIf, if_tt, M_cv h1.G, b1, bd_some, err_if, a3]
          cases decide ((comS w 0 (bsR (rowC w q) b) u c b).1 = nI 0)
          · rw [if_ff, if_ff]; exact m57 _ J Z h3
          · rw [if_tt, if_tt]
        by_cases e : (comS w 0 (bsR (rowC w q) b) u c b).1 = nI 0
        · have hW0 := h.W.1 0 (by omega)
          have hSK := com_SK hW0.2 hW0.1 e
          have hCK := kk_CK (f := (comS w 0 (bsR (rowC w q) b) u c b).2) hKb
          have hWp := h.2.2.2.2.push
          have hW' := sb_WS (q := q) (kk := kkR (bsR (rowC w q) b) (comS w 0 (bsR (rowC w q) b) u c b).2) h.W ⟨u, c, b, hCK, hSK⟩
          refine Agr.mod h (b := rowC w q 4) (w' := sbW w (kkR (bsR (rowC w q) b) (comS w 0 (bsR (rowC w q) b) u c b).2) q) (n' := pushN n) (P' := pushP P n w) (d' := d) (fun J Z => ?_) (fun I1 J Z h1 => ?_) ⟨hW', hWp.2⟩
          · obtain ⟨I3, f3, k3, s3, c3⟩ := cpr J Z
            have h3 := h.fvc f3
            obtain ⟨I4, s1, s2, s4⟩ := C_save (J := J) (Z := Z) h.jg h3.2.2.1 h.2.2.2.2
            have hRK4 : RK I4 (A + 405) (kkR (bsR (rowC w q) b) (comS w 0 (bsR (rowC w q) b) u c b).2) := (kk_RK k3 (s3 e)).fr (s4 _ (by omega) (by omega)) (s4 _ (by omega) (by omega))
            obtain ⟨I5, t1, t2, t3, t4⟩ := C_clCopy (I := I4) (J := J) (Z := Z) (p := A + 1 + 43 + 2 * q) (r := A + 405) hc hp (by omega) (by omega) (by omega) (by rw [hRK4.s0]; exact hSK.1)
            have h5 : RSt I5 (A + 1) (sbW w (kkR (bsR (rowC w q) b) (comS w 0 (bsR (rowC w q) b) u c b).2) q) := by
              refine s2.1.cli h.W (n' := ncl w) (fun i hi => sb_lo (by omega)) (fun y h1 h2 => t2 y (by omega) (by omega)) h.nc ((sb_lo (by omega)).trans h.W.2.2.1) (by rw [t2 _ (by omega) (by omega)]; exact s2.1.2.1.trans h.W.2.2.1) (fun r hr => ?_)
              by_cases z : r = q
              · subst z
                exact (hRK4.cp t3 t4).ag (fun j hj => sb_new hj)
              · exact ((s2.1.2.2 r hr).fr (t2 _ (by omega) (by omega)) (t2 _ (by omega) (by omega))).ag (fun j hj => sb_old z hj)
            refine ⟨I5, Z, ?_, s2.cli hWp h5 (fun y y1 y2 y3 => t2 y (by omega) (by omega)), fun y hy => by rw [t2 y (by omega) (by omega), s4 y (by omega) (by omega), f3 y (by omega) (by omega) (by omega)]⟩
            rw [c3, decide_eq_true e, if_tt, h.jg.cv, s1, bd_some, gI_m hc.1, Option.bind_some, h.jg.p5, Option.bind_some, cln_cv hc, t1, bd_some, (s2.1.2.2 q hq).1 4 (by decide)]
          · obtain ⟨I3, f3, k3, s3, c3⟩ := mpr I1 J Z h1
            have h3 := (h1.fvm f3).up3 (x := nI 0)
            obtain ⟨I4, s1, s2, s4, s5⟩ := M_save (J := J) (Z := Z) h3.G h3.2.1
            obtain ⟨I5, b1, b2, b3⟩ := M_keeps (I := I4) (J := J) (Z := Z) h1.G
            obtain ⟨I6, t1, t2, t3⟩ := M_lies (I := I5) (J := J) (Z := Z) h1.G (n := q) hq12
            have r6 : I6 (A + 418 + 1) = sbW w (kkR (bsR (rowC w q) b) (comS w 0 (bsR (rowC w q) b) u c b).2) q := by
              funext i
              rw [t3]
              unfold sbW
              by_cases zz : 963 + 16 * q ≤ i ∧ i < 963 + 16 * q + 16
              · rw [if_pos zz, if_pos zz, b3]
                unfold kkR
                by_cases z8 : i - (963 + 16 * q) < 8
                · rw [if_neg (by omega), if_pos z8, s4 _ (by omega) (by omega), up2_ne (by omega)]; exact k3 _ z8
                · rw [if_pos (by omega), if_neg z8, s4 _ (by omega) (by omega), up2_ne (by omega)]; exact s3 _ (by omega)
              · rw [if_neg zz, if_neg zz, b2 _ (by omega), s2.1]
            refine ⟨I6, ?_, s2.cli r6 (sb_z hq12 s2.2.1) (fun y q1 q2 q3 q4 q5 q6 => by rw [t2 y q2, b2 y q4]) (by rw [t2 _ (by omega), b2 _ (by omega)]), fun y hy => by rw [t2 y (by omega), b2 y (by omega), s4 y (by omega) (by omega), up2_ne (by omega), f3.1 y (by omega) (by omega) (by omega) (by omega) (by omega)], by rw [t2 _ (by omega), b2 _ (by omega), s5 3 (by decide), up3]⟩
            rw [c3, decide_eq_true e, if_tt]
            unfold fX9_setBase_58 fX9_setBase_60 fX9_setBase_79
            rw [bt1, if_neg (by decide), if_neg (by decide), M_cv h1.G, M_ref0 h1.G, bd_some, bIf, if_ff, M_cv h1.G, s1, bd_some, M_cv h1.G, b1, bd_some, M_cv h1.G, t1, bd_some]
        · refine Agr.rfs h (i := 1) (e := 2) ⟨by decide, rfl⟩ (fun J Z => ?_) (fun I1 J Z h1 => ?_)
          · obtain ⟨I3, f3, k3, s3, c3⟩ := cpr J Z
            exact ⟨I3, none, by rw [c3, decide_eq_false e, if_ff], f3⟩
          · obtain ⟨I3, f3, k3, s3, c3⟩ := mpr I1 J Z h1
            exact ⟨nI 0, up2 I3 (A + 418) 3 (nI 2), by rw [c3, decide_eq_false e, if_ff], f3.trans fvm_3, up3⟩
      · have eb' : baB w 0 b (rowC w q 3) = false := by cases hz : baB w 0 b (rowC w q 3) with | false => rfl | true => exact absurd hz eb
        refine Agr.rfs h (i := 1) (e := 2) ⟨by decide, rfl⟩ (fun J Z => ⟨I, none, ?_, FvC.refl⟩) (fun I1 J Z h1 => ?_)
        · unfold fX8_setBase
          rw [h.jg.cv, C_cliAt h hq, bd_some, xp_r, h.jg.V.p6, Option.bind_some, h.jg.V.c0, Option.bind_some, gI_m hc.1, Option.bind_some, cv_m (CQ.of0 h.jg.V h.jg.pb).1.1, hRK.1 3 (by decide), C_base (CQ.of0 h.jg.V h.jg.pb) h.cb0 hb, bd_some, eb', bIf, if_ff, thr_m]
        · obtain ⟨I2, a1, a2, a3, a4⟩ := mtake I1 J Z h1
          have h2 := h1.fvm a2
          have hr := mrow I2 a4
          refine ⟨nI 0, up2 (up2 I2 (A + 418 + 5) 4 (nI b)) (A + 418) 3 (nI 2), ?_, a2.trans fvm_3, up3⟩
          unfold fX9_setBase
          rw [M_cv h1.G, M_isCli h1 hq, bd_some, bIf, if_tt, M_cv h1.G, a1, bd_some, h1.G.p15, Option.bind_some, h1.G.cl (by decide), Option.bind_some, Option.bind_some, h1.G.st5 (by decide), Option.bind_some, M_cv h1.G, M_isBase (h2.mb (v := 0) (by omega)) hb, hr 3 (by decide), show bsR (rowC w q) b 3 = rowC w q 3 from rfl, eb', bd_some, bIf, if_ff]
          exact m57 _ J Z h2
  · refine Agr.rfs h (i := 0) (e := 1) ⟨by decide, rfl⟩ (fun J Z => ⟨I, none, ?_, FvC.refl⟩) (fun I1 J Z h1 => ⟨nI 0, up2 I1 (A + 418) 3 (nI 1), ?_, fvm_3, up3⟩)
    · unfold fX8_setBase
      rw [h.jg.cv, q2, bd_some, xp_l]
    · unfold fX9_setBase fX9_setBase_60
      rw [M_cv h1.G, q3 I1 J Z h1, bd_some, bIf, if_ff, bf0, if_pos (by decide)]
      exact ref (i := 0) (by decide) I1 J Z h1
end Sb
