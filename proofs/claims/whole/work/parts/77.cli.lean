/-! ===== questions to clients: compile, link, target, verdict, count, clientInfo ===== -/
section Qk
variable {w : Nat → Int32} {v u c b : Nat} {k k' : Nat → Int32}
theorem CK.cg (h : ∀ j, j < 16 → k' j = k j) (hK : CK k u c b) : CK k' u c b := by
  unfold CK at hK ⊢
  rw [h 0 (by decide), h 1 (by decide), h 2 (by decide), h 4 (by decide), h 5 (by decide), h 6 (by decide), h 7 (by decide)]
  exact hK
theorem SK.cg (h : ∀ j, j < 16 → k' j = k j) (hK : SK k u) : SK k' u := by
  unfold SK at hK ⊢
  rw [h 8 (by decide), h 10 (by decide), h 12 (by decide), h 13 (by decide), h 14 (by decide)]
  exact hK
theorem apB_cg (h : ∀ j, j < 16 → k' j = k j) : apB w v k' c b = apB w v k c b := by
  funext m
  unfold apB
  rw [h 2 (by decide), h 3 (by decide), h 5 (by decide), h 6 (by decide), h 7 (by decide)]
theorem cfO_cg (h : ∀ j, j < 16 → k' j = k j) (o : Option Nat) : cfO w v k' u b o = cfO w v k u b o := by
  cases o with
  | none => rfl
  | some m =>
    show cfM w v k' u b m = cfM w v k u b m
    unfold cfM
    rw [h 3 (by decide)]
theorem comS_cg (h : ∀ j, j < 16 → k' j = k j) : comS w v k' u c b = comS w v k u c b := by
  unfold comS cfE caE
  rw [apB_cg h, cfO_cg h, h 2 (by decide), h 3 (by decide)]
theorem lfO_cg (h : ∀ j, j < 16 → k' j = k j) (o : Option Nat) : lfO w v k' u b o = lfO w v k u b o := by
  cases o with
  | none => rfl
  | some m =>
    show lfM w v k' u b m = lfM w v k u b m
    unfold lfM
    rw [h 3 (by decide), h 11 (by decide)]
theorem lcO_cg (h : ∀ j, j < 16 → k' j = k j) (o : Option Nat) : lcO w v k' c b o = lcO w v k c b o := by
  cases o with
  | none => rfl
  | some m =>
    show lcM w v k' c b m = lcM w v k c b m
    unfold lcM
    rw [h 3 (by decide), h 11 (by decide)]
theorem lkS_cg (h : ∀ j, j < 16 → k' j = k j) : lkS w v k' u c b = lkS w v k u c b := by
  unfold lkS lcE lbE
  rw [lfO_cg h, lcO_cg h, h 2 (by decide), h 3 (by decide), h 8 (by decide), h 10 (by decide), h 13 (by decide), h 14 (by decide), h 15 (by decide)]
theorem otB_cg (h : ∀ j, j < 16 → k' j = k j) {f f' : Nat → Int32} (hf : ∀ j, j < 8 → f' j = f j) : otB f' k' = otB f k := by
  unfold otB
  refine anyF_congr (fun j _ hj => ?_)
  rw [h (8 + j) (by omega), hf j (by omega)]
theorem juS_cg (h : ∀ j, j < 16 → k' j = k j) : juS w k' u c b = juS w k u c b := by
  unfold juS
  rw [lkS_cg h, lkS_cg h, comS_cg h, otB_cg h (fun _ _ => rfl)]
end Qk
section Qc
variable {g : Gr} {A R p : Nat} {I I' : Mem} {J : Nat → Nat → Int64} {Z : Option Nat} {w w' : Nat → Int32} {n k v c u b : Nat} {P : Nat → Nat → Int32} {d : Nat → Int32} {x y z : Int32} {kk : Nat → Int32}
theorem M_take (hG : ModG g R) (hr : I (R + 1) = w) (hk : k < 12) : ∃ I', fX9_takes R (nI k) (mm g I J Z) = some ((), mm g I' J Z) ∧ (∀ x, x ≠ R + 5 → I' x = I x) ∧ ∀ j, j < 16 → I' (R + 5) j = rowC w k j := by
  obtain ⟨I3, t1, t2, t3⟩ := M_takes (I := I) (J := J) (Z := Z) hG hk
  exact ⟨I3, t1, t2, fun j hj => by rw [t3 j hj, hr]; rfl⟩
/-- a client's compiler and linker -/
theorem C_cmpV (h : Rel g A I w n P d) (hp : PC g A p) (hkI : ∀ j, j < 8 → I p j = kk j) (hK : CK kk u c b) (hv : v < 2) : ∃ q I', (∀ I J Z, ldP 1 (A + 407) (nI v) (mm g I J Z) = some q) ∧ g.1 q = 2 ∧ fX1_errorOf q p (mm g I J Z) = some ((comS w v kk u c b).1, mm g I' J Z) ∧ Fvd A I I' := by
  rcases (by omega : v = 0 ∨ v = 1) with rfl | rfl
  · obtain ⟨I3, t1, t2, t3, t4⟩ := C_comp (J := J) (Z := Z) (CQ.of0 h.jg.V hp) h.cb0 hkI hK
    exact ⟨A + 409, I3, fun I J Z => h.jg.V.c0, (CQ.of0 h.jg.V hp).1.1, t1, t2.v0⟩
  · obtain ⟨I3, t1, t2, t3, t4⟩ := C_comp (J := J) (Z := Z) (CQ.of1 h.jg.V hp) h.cb1 hkI hK
    exact ⟨A + 413, I3, fun I J Z => h.jg.V.c1, (CQ.of1 h.jg.V hp).1.1, t1, t2.v1⟩
theorem C_lnkV (h : Rel g A I w n P d) (hp : PC g A p) (hkI : RK I p kk) (hK : CK kk u c b) (hS : SK kk u) (hv : v < 2) : ∃ l I', (∀ I J Z, ldP 3 (A + 408) (nI v) (mm g I J Z) = some l) ∧ g.1 l = 4 ∧ fX3_errorOf l p (mm g I J Z) = some ((lkS w v kk u c b).1, mm g I' J Z) ∧ Fvd A I I' ∧ I' l 1 = (lkS w v kk u c b).2 := by
  rcases (by omega : v = 0 ∨ v = 1) with rfl | rfl
  · obtain ⟨I3, t1, t2, t3⟩ := C_link (J := J) (Z := Z) (CL.of0 h.jg.V hp) h.cb0 hkI hK hS
    exact ⟨A + 412, I3, fun I J Z => h.jg.V.l0, (CL.of0 h.jg.V hp).1.1, t1, t2.v0, t3⟩
  · obtain ⟨I3, t1, t2, t3⟩ := C_link (J := J) (Z := Z) (CL.of1 h.jg.V hp) h.cb1 hkI hK hS
    exact ⟨A + 416, I3, fun I J Z => h.jg.V.l1, (CL.of1 h.jg.V hp).1.1, t1, t2.v1, t3⟩
theorem M_isBoth (h : MRel g A I w n P d) (hk : k < ncl w) (hv : v < 2) : fX9_isBoth (A + 418) (nI k) (nI v) (mm g I J Z) = some (bI true, mm g I J Z) := by
  unfold fX9_isBoth
  rw [M_cv h.G, M_isCli h hk, bd_some, bIf, if_tt, M_isV hv, bd_some, bIf, if_tt, rz_n1]
theorem bth_cases (h : Rel g A I w n P d) (x y : Int32) : (∃ k v, k < ncl w ∧ v < 2 ∧ x = nI k ∧ y = nI v) ∨ ((∃ k, k < ncl w ∧ x = nI k ∧ ∀ h : AH, fX8_requireVersion y h = some (.inl 1, thr h)) ∨ (∀ J Z, fX8_clientAt A x (mm g I J Z) = some (.inl 1, mm g I J none))) ∧ ∀ I1 J Z, MRel g A I1 w n P d → fX9_isBoth (A + 418) x y (mm g I1 J Z) = some (bI false, mm g I1 J Z) := by
  rcases cli_cases h x with ⟨k, hk, rfl⟩ | ⟨q1, q2, q3⟩
  · rcases ver_cases h.jg y with ⟨v, hv, rfl⟩ | ⟨y1, y2, y3⟩
    · exact Or.inl ⟨k, v, hk, hv, rfl, rfl⟩
    · refine Or.inr ⟨Or.inl ⟨k, hk, rfl, y1⟩, fun I1 J Z h1 => ?_⟩
      unfold fX9_isBoth
      rw [M_cv h1.G, M_isCli h1 hk, bd_some, bIf, if_tt, y3, bd_some, bIf, if_ff, rz_n0]
  · refine Or.inr ⟨Or.inr q2, fun I1 J Z h1 => ?_⟩
    unfold fX9_isBoth
    rw [M_cv h1.G, q3 I1 J Z h1, bd_some, bIf, if_ff, rz_n0]

theorem Q_compile (h : Rel g A I w n P d) : Agr g A I (fX8_compile A x y) (fX9_compile (A + 418) x y) [1] := by
  rcases bth_cases h x y with ⟨k, v, hk, hv, rfl, rfl⟩ | ⟨q1, q2⟩
  · have hn := h.nc
    obtain ⟨u, c, b, hK, hS⟩ := h.W.2.2.2 k hk
    refine Agr.val h (b := (comS w v (rowC w k) u c b).1) (fun J Z => ?_) (fun I1 J Z h1 => ?_)
    · obtain ⟨q, I3, t1, t2, t3, t4⟩ := C_cmpV (J := J) (Z := Z) h (h.jg.pc (k := k) (by omega)) (h.S.2.2 k hk).1 hK hv
      refine ⟨I3, Z, ?_, t4.fvc⟩
      unfold fX8_compile
      rw [h.jg.cv, C_cliAt h hk, bd_some, xp_r, C_reqV hv, bd_some, xp_r, h.jg.V.p6, Option.bind_some, t1, Option.bind_some, cv_m t2, t3, bd_some]
    · have h2 := h1.up3 (x := nI 0)
      obtain ⟨I4, s1, s2, s3⟩ := M_take (I := up2 I1 (A + 418) 3 (nI 0)) (J := J) (Z := Z) (k := k) h2.G h2.row (by omega)
      have h3 := h2.fvm (fvm_5 s2)
      obtain ⟨I5, t1, t2, t3⟩ := M_comp (J := J) (Z := Z) (h3.mb hv) (hK.cg s3)
      rw [comS_cg s3] at t1
      refine ⟨I5, ?_, fvm_3.trans ((fvm_5 s2).trans t2.fvm), by rw [t2.2 3 (by omega), s2 _ (by omega), up3]⟩
      unfold fX9_compile fX9_compile_15
      rw [M_cv h1.G, M_isBoth h1 hk hv, bd_some, bIf, if_tt, M_cv h1.G, M_ref0 h1.G, bd_some, bIf, if_ff, M_cv h1.G, s1, bd_some, M_cv h1.G, t1, bd_some]
  · refine Agr.rfs h (i := 0) (e := 1) ⟨by decide, rfl⟩ (fun J Z => ⟨I, none, ?_, FvC.refl⟩) (fun I1 J Z h1 => ⟨nI 0, up2 I1 (A + 418) 3 (nI 1), ?_, fvm_3, up3⟩)
    · unfold fX8_compile
      rcases q1 with ⟨k, hk, rfl, q1⟩ | q1
      · rw [h.jg.cv, C_cliAt h hk, bd_some, xp_r, q1, bd_some, xp_l, thr_m]
      · rw [h.jg.cv, q1, bd_some, xp_l]
    · unfold fX9_compile fX9_compile_15
      rw [M_cv h1.G, q2 I1 J Z h1, bd_some, bIf, if_ff, M_cv h1.G, rf1 h1.G, bd_some, bIf, if_tt]

theorem Q_link (h : Rel g A I w n P d) : Agr g A I (fX8_link A x y) (fX9_link (A + 418) x y) [1] := by
  rcases bth_cases h x y with ⟨k, v, hk, hv, rfl, rfl⟩ | ⟨q1, q2⟩
  · have hn := h.nc
    obtain ⟨u, c, b, hK, hS⟩ := h.W.2.2.2 k hk
    refine Agr.val h (b := (lkS w v (rowC w k) u c b).1) (fun J Z => ?_) (fun I1 J Z h1 => ?_)
    · obtain ⟨q, I3, t1, t2, t3, t4, t5⟩ := C_lnkV (J := J) (Z := Z) h (h.jg.pc (k := k) (by omega)) (h.S.2.2 k hk) hK hS hv
      refine ⟨I3, Z, ?_, t4.fvc⟩
      unfold fX8_link
      rw [h.jg.cv, C_cliAt h hk, bd_some, xp_r, C_reqV hv, bd_some, xp_r, h.jg.V.p7, Option.bind_some, t1, Option.bind_some, cv_m t2, t3, bd_some]
    · have h2 := h1.up3 (x := nI 0)
      obtain ⟨I4, s1, s2, s3⟩ := M_take (I := up2 I1 (A + 418) 3 (nI 0)) (J := J) (Z := Z) (k := k) h2.G h2.row (by omega)
      have h3 := h2.fvm (fvm_5 s2)
      obtain ⟨I5, t1, t2, t3⟩ := M_link (J := J) (Z := Z) (h3.mb hv) (hK.cg s3) (hS.cg s3)
      rw [lkS_cg s3] at t1
      refine ⟨I5, ?_, fvm_3.trans ((fvm_5 s2).trans t2.fvm), by rw [t2.2 3 (by omega) (by omega), s2 _ (by omega), up3]⟩
      unfold fX9_link fX9_link_15
      rw [M_cv h1.G, M_isBoth h1 hk hv, bd_some, bIf, if_tt, M_cv h1.G, M_ref0 h1.G, bd_some, bIf, if_ff, M_cv h1.G, s1, bd_some, M_cv h1.G, t1, bd_some]
  · refine Agr.rfs h (i := 0) (e := 1) ⟨by decide, rfl⟩ (fun J Z => ⟨I, none, ?_, FvC.refl⟩) (fun I1 J Z h1 => ⟨nI 0, up2 I1 (A + 418) 3 (nI 1), ?_, fvm_3, up3⟩)
    · unfold fX8_link
      rcases q1 with ⟨k, hk, rfl, q1⟩ | q1
      · rw [h.jg.cv, C_cliAt h hk, bd_some, xp_r, q1, bd_some, xp_l, thr_m]
      · rw [h.jg.cv, q1, bd_some, xp_l]
    · unfold fX9_link fX9_link_15
      rw [M_cv h1.G, q2 I1 J Z h1, bd_some, bIf, if_ff, M_cv h1.G, rf1 h1.G, bd_some, bIf, if_tt]

theorem Q_target (h : Rel g A I w n P d) : Agr g A I (fX8_target A x y) (fX9_target (A + 418) x y) [1] := by
  rcases bth_cases h x y with ⟨k, v, hk, hv, rfl, rfl⟩ | ⟨q1, q2⟩
  · have hn := h.nc
    obtain ⟨u, c, b, hK, hS⟩ := h.W.2.2.2 k hk
    refine Agr.val h (b := (lkS w v (rowC w k) u c b).2) (fun J Z => ?_) (fun I1 J Z h1 => ?_)
    · obtain ⟨q, I3, t1, t2, t3, t4, t5⟩ := C_lnkV (J := J) (Z := Z) h (h.jg.pc (k := k) (by omega)) (h.S.2.2 k hk) hK hS hv
      have tg : fX8_targetOf A (A + 1 + 43 + 2 * k) (nI v) (mm g I J Z) = some ((lkS w v (rowC w k) u c b).2, mm g I3 J Z) := by
        unfold fX8_targetOf
        rw [h.jg.V.p7, Option.bind_some, t1, Option.bind_some, cv_m t2, t3, bd_some, h.jg.V.p7, Option.bind_some, t1, Option.bind_some, gI_m t2, Option.bind_some, t5]
      refine ⟨I3, Z, ?_, t4.fvc⟩
      unfold fX8_target
      rw [h.jg.cv, C_cliAt h hk, bd_some, xp_r, C_reqV hv, bd_some, xp_r, h.jg.cv, tg, bd_some]
    · have h2 := h1.up3 (x := nI 0)
      obtain ⟨I4, s1, s2, s3⟩ := M_take (I := up2 I1 (A + 418) 3 (nI 0)) (J := J) (Z := Z) (k := k) h2.G h2.row (by omega)
      have h3 := h2.fvm (fvm_5 s2)
      obtain ⟨I5, t1, t2, t3⟩ := M_link (J := J) (Z := Z) (h3.mb hv) (hK.cg s3) (hS.cg s3)
      rw [lkS_cg s3] at t1 t3
      refine ⟨I5, ?_, fvm_3.trans ((fvm_5 s2).trans t2.fvm), by rw [t2.2 3 (by omega) (by omega), s2 _ (by omega), up3]⟩
      unfold fX9_target fX9_target_15
      rw [M_cv h1.G, M_isBoth h1 hk hv, bd_some, bIf, if_tt, M_cv h1.G, M_ref0 h1.G, bd_some, bIf, if_ff, M_cv h1.G, s1, bd_some, M_cv h1.G, t1, bd_some, gI_m h1.G.1, Option.bind_some, t3]
  · refine Agr.rfs h (i := 0) (e := 1) ⟨by decide, rfl⟩ (fun J Z => ⟨I, none, ?_, FvC.refl⟩) (fun I1 J Z h1 => ⟨nI 0, up2 I1 (A + 418) 3 (nI 1), ?_, fvm_3, up3⟩)
    · unfold fX8_target
      rcases q1 with ⟨k, hk, rfl, q1⟩ | q1
      · rw [h.jg.cv, C_cliAt h hk, bd_some, xp_r, q1, bd_some, xp_l, thr_m]
      · rw [h.jg.cv, q1, bd_some, xp_l]
    · unfold fX9_target fX9_target_15
      rw [M_cv h1.G, q2 I1 J Z h1, bd_some, bIf, if_ff, M_cv h1.G, rf1 h1.G, bd_some, bIf, if_tt]

theorem Q_verdict (h : Rel g A I w n P d) : Agr g A I (fX8_verdict A x) (fX9_verdict (A + 418) x) [1] := by
  rcases cli_cases h x with ⟨k, hk, rfl⟩ | ⟨q1, q2, q3⟩
  · have hn := h.nc
    obtain ⟨u, c, b, hK, hS⟩ := h.W.2.2.2 k hk
    refine Agr.val h (b := juS w (rowC w k) u c b) (fun J Z => ?_) (fun I1 J Z h1 => ?_)
    · obtain ⟨I3, t1, t2⟩ := C_verd (J := J) (Z := Z) h.jg.V (h.jg.pc (k := k) (by omega)) h.cb0 h.cb1 (h.S.2.2 k hk) hK hS
      refine ⟨I3, Z, ?_, t2.fvc⟩
      unfold fX8_verdict
      rw [h.jg.cv, C_cliAt h hk, bd_some, xp_r, h.jg.cv, t1, bd_some]
    · have h2 := h1.up3 (x := nI 0)
      obtain ⟨I4, s1, s2, s3⟩ := M_take (I := up2 I1 (A + 418) 3 (nI 0)) (J := J) (Z := Z) (k := k) h2.G h2.row (by omega)
      have h3 := h2.fvm (fvm_5 s2)
      obtain ⟨I5, t1, t2⟩ := M_judged (J := J) (Z := Z) (h3.mb (v := 0) (by omega)) (h3.mb (v := 1) (by omega)) (hK.cg s3) (hS.cg s3)
      rw [juS_cg s3] at t1
      refine ⟨I5, ?_, fvm_3.trans ((fvm_5 s2).trans t2.fvm), by rw [t2.2 3 (by omega) (by omega), s2 _ (by omega), up3]⟩
      unfold fX9_verdict fX9_verdict_14
      rw [M_cv h1.G, M_isCli h1 hk, bd_some, bIf, if_tt, M_cv h1.G, M_ref0 h1.G, bd_some, bIf, if_ff, M_cv h1.G, s1, bd_some, M_cv h1.G, t1, bd_some]
  · refine Agr.rfs h (i := 0) (e := 1) ⟨by decide, rfl⟩ (fun J Z => ⟨I, none, ?_, FvC.refl⟩) (fun I1 J Z h1 => ⟨nI 0, up2 I1 (A + 418) 3 (nI 1), ?_, fvm_3, up3⟩)
    · unfold fX8_verdict
      rw [h.jg.cv, q2, bd_some, xp_l]
    · unfold fX9_verdict fX9_verdict_14
      rw [M_cv h1.G, q3 I1 J Z h1, bd_some, bIf, if_ff, M_cv h1.G, rf1 h1.G, bd_some, bIf, if_tt]
/-- the verdict of a client's row -/
def vdR (w : Nat → Int32) (k : Nat) : Int32 := juS w (rowC w k) (rowC w k 0).toNatClampNeg (rowC w k 1).toNatClampNeg (rowC w k 4).toNatClampNeg
theorem CK.nums {k : Nat → Int32} (h : CK k u c b) : (k 0).toNatClampNeg = u ∧ (k 1).toNatClampNeg = c ∧ (k 4).toNatClampNeg = b := by
  obtain ⟨k1, k2, k3, k4, k5, k6, k7, k8⟩ := h
  rw [k4, k5, k6, nI_clamp (by omega), nI_clamp (by omega), nI_clamp (by omega)]
  exact ⟨rfl, rfl, rfl⟩
theorem C_vdR (h : Rel g A I w n P d) (hk : k < ncl w) : ∃ I', fX8_verdictOf A (A + 1 + 43 + 2 * k) (mm g I J Z) = some (vdR w k, mm g I' J Z) ∧ Fvd A I I' := by
  have hn := h.nc
  obtain ⟨u, c, b, hK, hS⟩ := h.W.2.2.2 k hk
  obtain ⟨e1, e2, e3⟩ := hK.nums
  unfold vdR
  rw [e1, e2, e3]
  exact C_verd h.jg.V (h.jg.pc (k := k) (by omega)) h.cb0 h.cb1 (h.S.2.2 k hk) hK hS
theorem M_vdR (h : MRel g A I w n P d) (hk : k < ncl w) (hr : ∀ j, j < 16 → I (A + 418 + 5) j = rowC w k j) : ∃ I', fX9_judged (A + 418) (mm g I J Z) = some (vdR w k, mm g I' J Z) ∧ Fj (A + 418) I I' := by
  obtain ⟨u, c, b, hK, hS⟩ := h.W.2.2.2 k hk
  obtain ⟨e1, e2, e3⟩ := hK.nums
  unfold vdR
  rw [e1, e2, e3, ← juS_cg hr]
  exact M_judged (h.mb (v := 0) (by omega)) (h.mb (v := 1) (by omega)) (hK.cg hr) (hS.cg hr)
theorem C_countL (hx : ∀ k, k < ncl w → True) : ∀ (e k f : Nat) (I : Mem), Rel g A I w n P d → k + e = ncl w → e < f → ∃ I', lX8_count_24 f A x (nI (ct (fun k => decide (vdR w k = x)) k)) (nI k) (mm g I J Z) = some (.inr (nI (ct (fun k => decide (vdR w k = x)) (ncl w))), mm g I' J Z) ∧ FvC A I I' := by
  intro e
  induction e with
  | zero =>
    intro k f I h hi hf
    have hn := h.nc
    obtain ⟨f, rfl⟩ : ∃ z, f = z + 1 := ⟨f - 1, by omega⟩
    refine ⟨I, ?_, FvC.refl⟩
    show bX8_count_24 (lX8_count_24 f) _ _ _ _ _ = _
    unfold bX8_count_24
    rw [h.jg.p0, Option.bind_some, h.sz, Option.bind_some, if_pos (nI_le (by omega) (by omega)), show k = ncl w from by omega]
  | succ e ih =>
    intro k f I h hi hf
    have hn := h.nc
    obtain ⟨f, rfl⟩ : ∃ z, f = z + 1 := ⟨f - 1, by omega⟩
    have hk : k < ncl w := by omega
    obtain ⟨I1, a1, a2⟩ := C_vdR (J := J) (Z := Z) h hk
    obtain ⟨I3, t1, t2⟩ := ih (k + 1) f I1 (h.fvc a2.fvc) (by omega) (by omega)
    refine ⟨I3, ?_, a2.fvc.trans t2⟩
    show bX8_count_24 (lX8_count_24 f) _ _ _ _ _ = _
    unfold bX8_count_24 fX8_count_55
    rw [h.jg.p0, Option.bind_some, h.sz, Option.bind_some, if_neg (nI_ge (by omega) (by omega)), Option.bind_some, st_p1 h.jg.S, Option.bind_some, st_cli h.jg.S (by omega), Option.bind_some, h.jg.cv, a1, bd_some, nI_add, nI_add]
    by_cases q : vdR w k = x
    · rw [if_pos q, ← t1, ct, if_pos (decide_eq_true q)]
    · rw [if_neg q, ← t1, ct, if_neg (by rw [decide_eq_false q]; decide)]
theorem M_countL : ∀ (e k f : Nat) (I : Mem), MRel g A I w n P d → k + e = ncl w → e < f → ∃ I', lX9_count_27 f (A + 418) x (nI (ct (fun k => decide (vdR w k = x)) k)) (nI k) (mm g I J Z) = some (nI (ct (fun k => decide (vdR w k = x)) (ncl w)), mm g I' J Z) ∧ FvM (A + 418) I I' ∧ I' (A + 418) 3 = I (A + 418) 3 := by
  intro e
  induction e with
  | zero =>
    intro k f I h hi hf
    have hn := h.nc
    obtain ⟨f, rfl⟩ : ∃ z, f = z + 1 := ⟨f - 1, by omega⟩
    refine ⟨I, ?_, FvM.refl, rfl⟩
    show bX9_count_27 (lX9_count_27 f) _ _ _ _ _ = _
    unfold bX9_count_27
    rw [M_cv h.G, M_cmany h, bd_some, if_pos (nI_le (by omega) (by omega)), show k = ncl w from by omega]
  | succ e ih =>
    intro k f I h hi hf
    have hn := h.nc
    obtain ⟨f, rfl⟩ : ∃ z, f = z + 1 := ⟨f - 1, by omega⟩
    have hk : k < ncl w := by omega
    obtain ⟨I4, s1, s2, s3⟩ := M_take (I := I) (J := J) (Z := Z) (k := k) h.G h.row (by omega)
    have h3 := h.fvm (fvm_5 s2)
    obtain ⟨I1, a1, a2⟩ := M_vdR (J := J) (Z := Z) h3 hk s3
    obtain ⟨I3, t1, t2, t3⟩ := ih (k + 1) f I1 (h3.fvm a2.fvm) (by omega) (by omega)
    refine ⟨I3, ?_, (fvm_5 s2).trans (a2.fvm.trans t2), by rw [t3, a2.2 3 (by omega) (by omega), s2 _ (by omega)]⟩
    show bX9_count_27 (lX9_count_27 f) _ _ _ _ _ = _
    unfold bX9_count_27 fX9_count_54
    rw [M_cv h.G, M_cmany h, bd_some, if_neg (nI_ge (by omega) (by omega)), M_cv h.G, s1, bd_some, M_cv h.G, a1, bd_some, nI_add, nI_add, nI_add]
    by_cases q : vdR w k = x
    · rw [if_pos q, ← t1, ct, if_pos (decide_eq_true q)]
    · rw [if_neg q, ← t1, ct, if_neg (by rw [decide_eq_false q]; decide)]; rfl
theorem Q_count (h : Rel g A I w n P d) : Agr g A I (fX8_count A x) (fX9_count (A + 418) x) [2] := by
  have hn := h.nc
  rcases int_x x 6 (by omega) with hx | ⟨q, hq, rfl⟩
  · refine Agr.rfs h (i := 0) (e := 2) ⟨by decide, rfl⟩ (fun J Z => ⟨I, none, ?_, FvC.refl⟩) (fun I1 J Z h1 => ⟨nI 0, up2 I1 (A + 418) 3 (nI 1), ?_, fvm_3, up3⟩)
    · unfold fX8_count
      by_cases h0 : x < 0
      · rw [if_pos h0, thr_m]
      · rw [if_neg h0, if_neg (fun q => absurd (Int32.le_trans (hx.resolve_left h0) q) (by decide)), thr_m]
    · unfold fX9_count fX9_count_15
      rw [wi_no hx (by omega), bd_some, bIf, if_ff, M_cv h1.G, rf1 h1.G, bd_some, bIf, if_tt]
  · refine Agr.val h (b := nI (ct (fun k => decide (vdR w k = nI q)) (ncl w))) (fun J Z => ?_) (fun I1 J Z h1 => ?_)
    · obtain ⟨I3, t1, t2⟩ := C_countL (J := J) (Z := Z) (x := nI q) (fun _ _ => trivial) (ncl w) 0 fuel I h (by omega) (by unfold fuel; omega)
      refine ⟨I3, Z, ?_, t2⟩
      unfold fX8_count
      rw [if_neg (nI_pos (by omega)), if_pos (nI_le (by omega) (by omega))]
      exact t1
    · obtain ⟨I3, t1, t2, t3⟩ := M_countL (J := J) (Z := Z) (x := nI q) (ncl w) 0 fuel _ (h1.up3 (x := nI 0)) (by omega) (by unfold fuel; omega)
      refine ⟨I3, ?_, fvm_3.trans t2, by rw [t3, up3]⟩
      unfold fX9_count fX9_count_15
      rw [wi_yes (by omega) (by omega), bd_some, bIf, if_tt, M_cv h1.G, M_ref0 h1.G, bd_some, bIf, if_ff]
      exact t1
def tldS (k : Nat → Int32) (j : Nat) : Int32 := if j < 6 then k j else k (j + 2)

theorem C_val0 (hp : ClG g p) (hk : RK I p kk) (hb : kk 8 = nI 0 ∨ kk 8 = nI 1) (hq : k < 10) : fX0_valueOf p (nI k) (mm g I J Z) = some (tldS kk k, mm g I J Z) := by
  unfold fX0_valueOf
  rcases (by omega : k = 0 ∨ k = 1 ∨ k = 2 ∨ k = 3 ∨ k = 4 ∨ k = 5 ∨ k = 6 ∨ k = 7 ∨ k = 8 ∨ k = 9) with rfl | rfl | rfl | rfl | rfl | rfl | rfl | rfl | rfl | rfl
  · rw [if_pos rfl, cln_g0 hp, Option.bind_some, hk.1 0 (by decide)]; rfl
  · rw [if_neg (by decide), if_pos rfl, cln_g1 hp, Option.bind_some, hk.1 1 (by decide)]; rfl
  · rw [if_neg (by decide), if_neg (by decide), if_pos rfl, cln_g2 hp, Option.bind_some, hk.1 2 (by decide)]; rfl
  · rw [if_neg (by decide), if_neg (by decide), if_neg (by decide), if_pos rfl, cln_g3 hp, Option.bind_some, hk.1 3 (by decide)]; rfl
  · rw [if_neg (by decide), if_neg (by decide), if_neg (by decide), if_neg (by decide), if_pos rfl, cln_g4 hp, Option.bind_some, hk.1 4 (by decide)]; rfl
  · rw [if_neg (by decide), if_neg (by decide), if_neg (by decide), if_neg (by decide), if_neg (by decide), if_pos rfl, cln_g5 hp, Option.bind_some, hk.1 5 (by decide)]; rfl
  · rw [if_neg (by decide), if_neg (by decide), if_neg (by decide), if_neg (by decide), if_neg (by decide), if_neg (by decide), if_pos rfl, cln_p8 hp, Option.bind_some, sym_g0 hp.2.2, Option.bind_some, hk.2.1]
    show (if kk 8 = 0 then _ else _) = some (kk 8, _)
    rcases hb with e | e
    · rw [e, if_pos (by decide)]
    · rw [e, if_neg (by decide)]
  · rw [if_neg (by decide), if_neg (by decide), if_neg (by decide), if_neg (by decide), if_neg (by decide), if_neg (by decide), if_neg (by decide), if_pos rfl, cln_p8 hp, Option.bind_some, sym_g1 hp.2.2, Option.bind_some, hk.2.2.1]; rfl
  · rw [if_neg (by decide), if_neg (by decide), if_neg (by decide), if_neg (by decide), if_neg (by decide), if_neg (by decide), if_neg (by decide), if_neg (by decide), if_pos rfl, cln_p8 hp, Option.bind_some, sym_g2 hp.2.2, Option.bind_some, hk.2.2.2.1]; rfl
  · rw [if_neg (by decide), if_neg (by decide), if_neg (by decide), if_neg (by decide), if_neg (by decide), if_neg (by decide), if_neg (by decide), if_neg (by decide), if_neg (by decide), cln_p8 hp, Option.bind_some, sym_g3 hp.2.2, Option.bind_some, hk.2.2.2.2.1]; rfl

theorem M_cTold {q : Nat} (hG : ModG g R) (hr : I (R + 1) = w) (hk : q < 12) (hq : k < 10) : fX9_clientTold R (nI q) (nI k) (mm g I J Z) = some (tldS (rowC w q) k, mm g I J Z) := by
  unfold fX9_clientTold
  rcases (by omega : k = 0 ∨ k = 1 ∨ k = 2 ∨ k = 3 ∨ k = 4 ∨ k = 5 ∨ k = 6 ∨ k = 7 ∨ k = 8 ∨ k = 9) with rfl | rfl | rfl | rfl | rfl | rfl | rfl | rfl | rfl | rfl
  · rw [if_neg (by decide), if_neg (by decide), if_neg (by decide), if_neg (by decide), hG.p0, Option.bind_some]; unfold fX9_client; rw [bd_some, pk_mul, nI_add, nI_add, hG.ld1 (by omega), Option.bind_some, hr]; rfl
  · rw [if_neg (by decide), if_neg (by decide), if_neg (by decide), if_neg (by decide), hG.p0, Option.bind_some]; unfold fX9_client; rw [bd_some, pk_mul, nI_add, nI_add, hG.ld1 (by omega), Option.bind_some, hr]; rfl
  · rw [if_neg (by decide), if_neg (by decide), if_neg (by decide), if_neg (by decide), hG.p0, Option.bind_some]; unfold fX9_client; rw [bd_some, pk_mul, nI_add, nI_add, hG.ld1 (by omega), Option.bind_some, hr]; rfl
  · rw [if_neg (by decide), if_neg (by decide), if_neg (by decide), if_neg (by decide), hG.p0, Option.bind_some]; unfold fX9_client; rw [bd_some, pk_mul, nI_add, nI_add, hG.ld1 (by omega), Option.bind_some, hr]; rfl
  · rw [if_neg (by decide), if_neg (by decide), if_neg (by decide), if_neg (by decide), hG.p0, Option.bind_some]; unfold fX9_client; rw [bd_some, pk_mul, nI_add, nI_add, hG.ld1 (by omega), Option.bind_some, hr]; rfl
  · rw [if_neg (by decide), if_neg (by decide), if_neg (by decide), if_neg (by decide), hG.p0, Option.bind_some]; unfold fX9_client; rw [bd_some, pk_mul, nI_add, nI_add, hG.ld1 (by omega), Option.bind_some, hr]; rfl
  · rw [if_pos rfl, hG.p0, Option.bind_some]; unfold fX9_client; rw [bd_some, pk_mul, nI_add, nI_add, nI_add, hG.ld1 (by omega), Option.bind_some, hr]; rfl
  · rw [if_neg (by decide), if_pos rfl, hG.p0, Option.bind_some]; unfold fX9_client; rw [bd_some, pk_mul, nI_add, nI_add, nI_add, hG.ld1 (by omega), Option.bind_some, hr]; rfl
  · rw [if_neg (by decide), if_neg (by decide), if_pos rfl, hG.p0, Option.bind_some]; unfold fX9_client; rw [bd_some, pk_mul, nI_add, nI_add, nI_add, hG.ld1 (by omega), Option.bind_some, hr]; rfl
  · rw [if_neg (by decide), if_neg (by decide), if_neg (by decide), if_pos rfl, hG.p0, Option.bind_some]; unfold fX9_client; rw [bd_some, pk_mul, nI_add, nI_add, nI_add, hG.ld1 (by omega), Option.bind_some, hr]; rfl
theorem Q_clientInfo (h : Rel g A I w n P d) : Agr g A I (fX8_clientInfo A x y) (fX9_clientInfo (A + 418) x y) [1, 2] := by
  have hn := h.nc
  rcases cli_cases h x with ⟨q, hk, rfl⟩ | ⟨q1, q2, q3⟩
  · rcases inf_cases y with ⟨k, hq, rfl⟩ | ⟨z1, z2⟩
    · refine Agr.val h (b := tldS (rowC w q) k) (fun J Z => ⟨I, Z, ?_, FvC.refl⟩) (fun I1 J Z h1 => ⟨up2 I1 (A + 418) 3 (nI 0), ?_, fvm_3, up3⟩)
      · unfold fX8_clientInfo
        rw [h.jg.cv, C_cliAt h hk, bd_some, xp_r, C_reqI hq, bd_some, xp_r, cln_cv (h.jg.S.cli (by omega)), C_val0 (h.jg.S.cli (by omega)) (h.S.2.2 q hk) (h.W.2.2.2 q hk).b hq, bd_some]
      · unfold fX9_clientInfo fX9_clientInfo_28
        rw [M_cv h1.G, M_isCli h1 hk, bd_some, bIf, if_tt, wi_yes (by omega) (by omega), bd_some, bIf, if_tt, M_cv h1.G, M_ref0 h1.G, bd_some, bIf, if_ff, M_cv h1.G, M_cTold h1.G h1.up3.row (by omega) hq, bd_some]
    · refine Agr.rfs h (i := 1) (e := 2) ⟨by decide, rfl⟩ (fun J Z => ⟨I, none, ?_, FvC.refl⟩) (fun I1 J Z h1 => ⟨nI 0, up2 I1 (A + 418) 3 (nI 2), ?_, fvm_3, up3⟩)
      · unfold fX8_clientInfo
        rw [h.jg.cv, C_cliAt h hk, bd_some, xp_r, z1, bd_some, xp_l, thr_m]
      · unfold fX9_clientInfo fX9_clientInfo_28
        rw [M_cv h1.G, M_isCli h1 hk, bd_some, bIf, if_tt, z2, bd_some, bIf, if_ff, M_cv h1.G, rf2 h1.G, bd_some, bIf, if_tt]
  · refine Agr.rfs h (i := 0) (e := 1) ⟨by decide, rfl⟩ (fun J Z => ⟨I, none, ?_, FvC.refl⟩) (fun I1 J Z h1 => ⟨nI 0, up2 I1 (A + 418) 3 (nI 1), ?_, fvm_3, up3⟩)
    · unfold fX8_clientInfo
      rw [h.jg.cv, q2, bd_some, xp_l]
    · unfold fX9_clientInfo fX9_clientInfo_28
      rw [M_cv h1.G, q3 I1 J Z h1, bd_some, bIf, if_ff, M_cv h1.G, rf1 h1.G, bd_some, bIf, if_tt]
theorem Q_clients (h : Rel g A I w n P d) : (∀ J Z, fX8_clients A (mm g I J Z) = some (nI (ncl w), mm g I J Z)) ∧ ∀ J Z, fX9_clients (A + 418) (mm g I J Z) = some (nI (ncl w), mm g (up2 I (A + 418) 3 (nI 0)) J Z) := by
  refine ⟨fun J Z => ?_, fun J Z => ?_⟩
  · unfold fX8_clients
    rw [h.jg.p0, Option.bind_some, h.sz, Option.bind_some]
  · unfold fX9_clients
    rw [pI_m h.G.1, Option.bind_some, M_cv h.G, M_cmany h.up3.m, bd_some]
end Qc
