/-! ===== the first clients; the judge ===== -/
def kF (w : Nat → Int32) (u c : Nat) (nm pk : Int32) : Nat → Int32 := kkR (mkR u c nm pk (nI 0) (-2) (-2)) (comS w 0 (mkR u c nm pk (nI 0) (-2) (-2)) u c 0).2
def okF (w : Nat → Int32) (u c : Nat) (nm pk : Int32) : Prop := (comS w 0 (mkR u c nm pk (nI 0) (-2) (-2)) u c 0).1 = nI 0
def ro2 : Nat → Int32 := adcW ro1 (kF ro1 0 3 (nI 1) (nI 2))
def ro3 : Nat → Int32 := adcW ro2 (kF ro2 2 3 (nI 2) (nI 2))
def ro4 : Nat → Int32 := adcW ro3 (kF ro3 2 4 (nI 0) (nI 2))
theorem ro1_ok : okF ro1 0 3 (nI 1) (nI 2) := by unfold okF; decide +kernel
theorem ro2_ok : okF ro2 2 3 (nI 2) (nI 2) := by unfold okF; decide +kernel
theorem ro3_ok : okF ro3 2 4 (nI 0) (nI 2) := by unfold okF; decide +kernel
theorem ro1_cl : ro1 962 = nI 0 := by decide +kernel
section Cf
variable {g g' : Gr} {A p u c b : Nat} {I I' : Mem} {J : Nat → Nat → Int64} {Z : Option Nat} {w : Nat → Int32} {k : Nat → Int32} {nm pk : Int32} {γ : Type}
theorem ro1_WS : WS ro1 := by
  have e : ncl ro1 = 0 := ncl_of (by decide) ro1_cl
  refine ⟨fun v hv => ?_, by rw [e]; decide, by rw [e]; exact ro1_cl, fun k hk => absurd hk (by rw [e]; omega)⟩
  rcases (by omega : v = 0 ∨ v = 1) with rfl | rfl
  · exact ⟨ro1_WC, ro1_WM⟩
  · have h1 : ∀ c p, c < 10 → p < 8 → cl ro1 1 c p = cl ro1 0 c p := fun c p hc hp => ro1_01.1 c hc p hp
    exact ⟨ro1_WC.cg h1, ro1_WM.cg ro1_01.2.1 (fun m p hm hp => ro1_01.2.2 m (by rw [ro1_n] at hm; exact hm) p hp) h1⟩
theorem C_cp (hJ : JG g A) (hb : CB g I (A + 4) w 0) (hkI : ∀ j, j < 8 → I (A + 405) j = k j) (hK : CK k u c b) : ∃ I', fX8_compileProbe A (mm g I J Z) = some (bI (decide ((comS w 0 k u c b).1 = nI 0)), mm g I' J Z) ∧ FvC A I I' ∧ (∀ j, j < 8 → I' (A + 405) j = k j) ∧ ((comS w 0 k u c b).1 = nI 0 → SymR I' (A + 405 + 1) (comS w 0 k u c b).2) ∧ I' (A + 409) 4 = bI (nkS w 0 k u c) := by
  have hQ := CQ.of0 hJ.V hJ.pb
  obtain ⟨I1, t1, t2, t3, t4⟩ := C_comp (J := J) (Z := Z) hQ hb hkI hK
  have fp : I1 (A + 405) = I (A + 405) := t2 _ (by omega) (by omega) (by omega) (by omega)
  have hf1 : FvC A I I1 := t2.v0.fvc
  unfold fX8_compileProbe
  rw [hJ.V.p6, Option.bind_some, hJ.V.c0, Option.bind_some, hJ.p5, Option.bind_some, cv_m hQ.1.1, t1, bd_some, err_if]
  by_cases e : (comS w 0 k u c b).1 = nI 0
  · have hp := hJ.pb.1
    obtain ⟨I2, s1, s2, s3⟩ := C_symCopy (I := I1) (J := J) (Z := Z) (s := A + 405 + 1) (t := A + 409 + 1) hp.2.2 hQ.1.2.2.2.1 (by omega) (by rw [t3.1]; exact com_0)
    refine ⟨I2, ?_, fun y h1 h2 h3 => by rw [s2 y (by omega)]; exact hf1 y h1 h2 h3, fun j hj => by rw [s2 _ (by omega), fp]; exact hkI j hj, fun _ => ?_, by rw [s2 _ (by omega)]; exact t4⟩
    · rw [decide_eq_true e, if_tt, hJ.p5, Option.bind_some, gP_m hp.1 hp.2.1, Option.bind_some, hJ.V.p6, Option.bind_some, hJ.V.c0, Option.bind_some, gP_m hQ.1.1 hQ.1.2.2.1, Option.bind_some, sym_cv hp.2.2, s1, bd_some]
      exact rz_n1 _
    · obtain ⟨q0, q1, q2, q3, q4, q5, q6⟩ := t3
      exact ⟨(s3 0 (by decide)).trans q0, (s3 1 (by decide)).trans q1, (s3 2 (by decide)).trans q2, (s3 3 (by decide)).trans q3, (s3 4 (by decide)).trans q4, (s3 5 (by decide)).trans q5, (s3 6 (by decide)).trans q6⟩
  · refine ⟨I1, ?_, hf1, fun j hj => by rw [fp]; exact hkI j hj, fun q => absurd q e, t4⟩
    rw [decide_eq_false e, if_ff]
    exact rz_n0 _

theorem kF_cke (hW : WS w) (hu : u < 6) (hc : c < 10) (hn : u ≤ 2 → ∃ q, q < 8 ∧ nm = nI q) (e : okF w u c nm pk) : CKE (kF w u c nm pk) ∧ (kF w u c nm pk 8 = nI 0 ∨ kF w u c nm pk 8 = nI 1) := by
  have hK := mk_CK (pk := pk) hu hc hn (Or.inl ⟨rfl, rfl, rfl⟩ : Pt (nI 0) (-2) (-2))
  have hS := com_SK (hW.1 0 (by omega)).2 (hW.1 0 (by omega)).1 e
  exact ⟨⟨u, c, 0, kk_CK hK, hS⟩, hS.1⟩
/-- one of the first clients -/
theorem F_cl1 {K : AH → Option γ} (hJ : JG g A) (hR : RSt I (A + 1) w) (hW : WS w) (hl : ncl w < 12) (hu : u < 6) (hc : c < 10) (hn : u ≤ 2 → ∃ q, q < 8 ∧ nm = nI q) (e : okF w u c nm pk) : ∃ I', ((gP 8 A 5 (mm g I J Z)).bind fun a_13 => cv 0 a_13 (fX0_put a_13 (nI u) (nI c) nm pk) (mm g I J Z) fun _ h => cv 8 A (fX8_compileProbe A) h fun x_14 h => (gP 8 A 0 h).bind fun a_15 => (gP 8 A 5 h).bind fun a_16 => cv 6 a_15 (fX6_append a_15 a_16) h fun _ h => K h) = K (mm g I' J Z) ∧ (∀ y, (y < A + 1 ∨ A + 68 ≤ y) → (y < A + 405 ∨ A + 417 ≤ y) → I' y = I y) ∧ RSt I' (A + 1) (adcW w (kF w u c nm pk)) := by
  have hK := mk_CK (pk := pk) hu hc hn (Or.inl ⟨rfl, rfl, rfl⟩ : Pt (nI 0) (-2) (-2))
  have hp := hJ.pb.1
  obtain ⟨I1, a1, a2, a3, -⟩ := C_put (I := I) (J := J) (Z := Z) (c := c) (nm := nm) (pk := pk) hp hu
  have hR1 : RSt I1 (A + 1) w := hR.fr (fun x h1 h2 _ _ => a2 x (by omega) (by omega)) hW.2.1
  have hb : CB g I1 (A + 4) w 0 := ⟨hJ.lib (v := 0) (by omega), hR1.1 0 (by omega), (hW.1 0 (by omega)).1, (hW.1 0 (by omega)).2⟩
  obtain ⟨I2, b1, b2, b3, b4, -⟩ := C_cp (J := J) (Z := Z) hJ hb a3 hK
  have hR2 : RSt I2 (A + 1) w := hR1.fr (fun x h1 h2 h3 h4 => b2 x (by omega) (by omega) (by omega)) hW.2.1
  have hk : RK I2 (A + 405) (kF w u c nm pk) := kk_RK b3 (b4 e)
  obtain ⟨I3, c1, c2, c3, -⟩ := C_append (J := J) (Z := Z) hR2 hW hJ hl hk (kF_cke hW hu hc hn e).2
  refine ⟨I3, ?_, fun y h1 h2 => ?_, c3⟩
  · rw [hJ.p5, Option.bind_some, cln_cv hp, a1, bd_some, hJ.cv, b1, bd_some, hJ.p0, Option.bind_some, hJ.p5, Option.bind_some, cv_m hJ.S.1, c1, bd_some]
  · rw [c2 y h1, b2 y h2 (by omega) (by omega), a2 y (by omega) (by omega)]
theorem ncl1 : ncl ro1 = 0 := ncl_of (by decide) ro1_cl
theorem ncl2 : ncl ro2 = 1 := ncl_of (by decide) (adc_n.trans (by rw [ncl1]))
theorem ncl3 : ncl ro3 = 2 := ncl_of (by decide) (adc_n.trans (by rw [ncl2]))
theorem nq {q : Nat} (h : q < 8) : u ≤ 2 → ∃ z, z < 8 ∧ nI q = nI z := fun _ => ⟨q, h, rfl⟩
theorem ro2_WS : WS ro2 := adc_WS ro1_WS (by rw [ncl1]; decide) (kF_cke ro1_WS (by decide) (by decide) (nq (by decide)) ro1_ok).1
theorem ro3_WS : WS ro3 := adc_WS ro2_WS (by rw [ncl2]; decide) (kF_cke ro2_WS (by decide) (by decide) (nq (by decide)) ro2_ok).1
theorem ro4_WS : WS ro4 := adc_WS ro3_WS (by rw [ncl3]; decide) (kF_cke ro3_WS (by decide) (by decide) (nq (by decide)) ro3_ok).1
theorem F_cls (hJ : JG g A) (hR : RSt I (A + 1) ro1) : ∃ I', fX8_buildFirstClients A (mm g I J Z) = some ((), mm g I' J Z) ∧ (∀ y, (y < A + 1 ∨ A + 68 ≤ y) → (y < A + 405 ∨ A + 417 ≤ y) → I' y = I y) ∧ RSt I' (A + 1) ro4 := by
  obtain ⟨I3, a1, a2, a3⟩ : ∃ I3, (∃ I1 I2, RSt I1 (A + 1) ro2 ∧ RSt I2 (A + 1) ro3 ∧ fX8_buildFirstClients A (mm g I J Z) = some ((), mm g I3 J Z)) ∧ (∀ y, (y < A + 1 ∨ A + 68 ≤ y) → (y < A + 405 ∨ A + 417 ≤ y) → I3 y = I y) ∧ RSt I3 (A + 1) ro4 := by
    obtain ⟨I1, e1, f1, r1⟩ := F_cl1 (J := J) (Z := Z) (u := 0) (c := 3) (nm := nI 1) (pk := nI 2) (K := fun h => (gP 8 A 5 h).bind fun a_17 => cv 0 a_17 (fX0_put a_17 (nI 2) (nI 3) (nI 2) (nI 2)) h fun _ h => cv 8 A (fX8_compileProbe A) h fun x_18 h => (gP 8 A 0 h).bind fun a_19 => (gP 8 A 5 h).bind fun a_20 => cv 6 a_19 (fX6_append a_19 a_20) h fun _ h => (gP 8 A 5 h).bind fun a_21 => cv 0 a_21 (fX0_put a_21 (nI 2) (nI 4) (nI 0) (nI 2)) h fun _ h => cv 8 A (fX8_compileProbe A) h fun x_22 h => (gP 8 A 0 h).bind fun a_23 => (gP 8 A 5 h).bind fun a_24 => cv 6 a_23 (fX6_append a_23 a_24) h fun _ h => some ((), h)) hJ hR ro1_WS (by rw [ncl1]; decide) (by decide) (by decide) (nq (by decide)) ro1_ok
    obtain ⟨I2, e2, f2, r2⟩ := F_cl1 (J := J) (Z := Z) (u := 2) (c := 3) (nm := nI 2) (pk := nI 2) (K := fun h => (gP 8 A 5 h).bind fun a_21 => cv 0 a_21 (fX0_put a_21 (nI 2) (nI 4) (nI 0) (nI 2)) h fun _ h => cv 8 A (fX8_compileProbe A) h fun x_22 h => (gP 8 A 0 h).bind fun a_23 => (gP 8 A 5 h).bind fun a_24 => cv 6 a_23 (fX6_append a_23 a_24) h fun _ h => some ((), h)) hJ (show RSt I1 (A + 1) ro2 from r1) ro2_WS (by rw [ncl2]; decide) (by decide) (by decide) (nq (by decide)) ro2_ok
    obtain ⟨I3, e3, f3, r3⟩ := F_cl1 (J := J) (Z := Z) (u := 2) (c := 4) (nm := nI 0) (pk := nI 2) (K := fun h => some ((), h)) hJ (show RSt I2 (A + 1) ro3 from r2) ro3_WS (by rw [ncl3]; decide) (by decide) (by decide) (nq (by decide)) ro3_ok
    refine ⟨I3, ⟨I1, I2, r1, r2, ?_⟩, fun y h1 h2 => by rw [f3 y h1 h2, f2 y h1 h2, f1 y h1 h2], r3⟩
    unfold fX8_buildFirstClients
    exact e1.trans (e2.trans e3)
  obtain ⟨-, -, -, -, e⟩ := a1
  exact ⟨I3, e, a2, a3⟩
theorem JV.sm (h : JV g A) (hs : ∀ a, A ≤ a → a < A + 417 → Sm3 g g' a) : JV g' A := by
  obtain ⟨h1, ⟨a1, a2, a3, a4, a5⟩, ⟨b1, b2, b3, b4, b5⟩, c1, c2, c3, c4⟩ := h
  have s0 := hs A (by omega) (by omega)
  have s7 := hs (A + 407) (by omega) (by omega)
  have s8 := hs (A + 408) (by omega) (by omega)
  exact ⟨s0.1.trans h1, ⟨(congrFun s0.2.2 6).trans a1, s7.1.trans a2, s7.2.1.trans a3, (congrFun s7.2.2 0).trans a4, (congrFun s7.2.2 1).trans a5⟩, ⟨(congrFun s0.2.2 7).trans b1, s8.1.trans b2, s8.2.1.trans b3, (congrFun s8.2.2 0).trans b4, (congrFun s8.2.2 1).trans b5⟩, c1.sm (fun a q1 q2 => hs a (by omega) (by omega)), c2.sm (hs _ (by omega) (by omega)), c3.sm (fun a q1 q2 => hs a (by omega) (by omega)), c4.sm (hs _ (by omega) (by omega))⟩
theorem JG.sm (h : JG g A) (hs : ∀ a, A ≤ a → a < A + 417 → Sm3 g g' a) : JG g' A := by
  obtain ⟨h1, h2, h3, h4, ⟨h5, h6, h7⟩, h8, ⟨h9, h10⟩, h11, h12⟩ := h
  have s0 := hs A (by omega) (by omega)
  have s68 := hs (A + 68) (by omega) (by omega)
  exact ⟨h1.sm hs, h2.sm (fun a q1 q2 => hs a (by omega) (by omega)), (congrFun s0.2.2 0).trans h3, (congrFun s0.2.2 1).trans h4, ⟨s68.1.trans h5, s68.2.1.trans h6, fun k hk => (congrFun s68.2.2 k).trans (h7 k hk)⟩, fun k hk => (h8 k hk).sm (fun a q1 q2 => hs a (by omega) (by omega)), ⟨(congrFun s0.2.2 4).trans h9, (hs _ (by omega) (by omega)).1.trans h10⟩, (congrFun s0.2.2 5).trans h11, h12.sm (fun a q1 q2 => hs a (by omega) (by omega))⟩
def P0 : Nat → Nat → Int32 := fun _ _ => 0
/-- the judge -/
theorem N_judge (hr : g.1 A = 8 + 1) : ∃ (g' : Gr) (I' : Mem) (J' : Nat → Nat → Int64), fX8_init A (mm g I J (some (A + 1))) = some ((), mm g' I' J' (some (A + 418))) ∧ (∀ a, a < A → Sm3 g g' a ∧ I' a = I a) ∧ JG g' A ∧ RelC I' A ro4 0 P0 d0 := by
  obtain ⟨g1, I1, J1, e1, s1, G1, M1, z1, z2, z3, z4, z5, z6⟩ := N_j0 (I := I) (J := J) hr
  have L0 : LibG g1 (A + 1 + 3 + 20 * 0) := G1.lib (by omega)
  obtain ⟨I2, e2, f2, c2, t2⟩ := L_first (I := I1) (J := J1) (Z := some (A + 417)) L0 (show LZ I1 (A + 1 + 3 + 20 * 0) from M1.2)
  have m2 : I2 (A + 1 + 3 + 20 * 0 + 6) 0 = nI 0 := by rw [f2 _ (Or.inr (by omega))]; exact M1.2.2.2
  obtain ⟨I3, J3, e3, f3, n3, v3⟩ := F_mem (g := g1) (b := A + 1 + 3 + 20 * 0 + 6) (p := A + 417) (I := I2) (J := J1) L0.2.2.2.1 (by omega) m2
  have G3 : JG (gN g1 (A + 417) 6 0) A := G1.sm (fun a q1 q2 => gN_s (by omega))
  have fr3 : ∀ y, y < A + 1 + 3 + 20 * 0 + 6 → I3 y = I2 y := fun y hy => f3 y (Or.inl hy) (by omega)
  have R3 : RLib I3 (A + 1 + 3 + 20 * 0) ro1 0 := RLib.of (c2.fr (fr3 _ (by omega)) (fr3 _ (by omega)) (fr3 _ (by omega)) (fr3 _ (by omega))) (t2.fr (fr3 _ (by omega)) (fr3 _ (by omega))) ⟨n3.trans (by decide +kernel), fun j h1 h2 m hm => v3 j h1 h2 m (by rw [ro1_n] at hm; exact hm)⟩
  obtain ⟨I4, e4, f4, r4⟩ := C_libCopy (a := A + 1 + 3 + 20 * 1) (t := A + 1 + 3 + 20 * 0) (n := 8) (I := I3) (J := J3) (Z := some (A + 418)) (G3.lib (v := 1) (by omega)) (G3.lib (v := 0) (by omega)) (by omega) (by omega) n3
  have R4 : RLib I4 (A + 1 + 3 + 20 * 1) ro1 1 := (r4 ro1 0 ro1_WM R3).cg ro1_WC (fun c p hc hp => ro1_01.1 c hc p hp) ro1_01.2.1 (fun m p hm hp => ro1_01.2.2 m (by rw [ro1_n] at hm; exact hm) p hp)
  have f0 : ∀ y, (y < A + 4 ∨ A + 44 ≤ y) → y < A + 417 → I4 y = I1 y := fun y h1 h2 => by rw [f4 y (by omega), f3 y (by omega) (by omega), f2 y (by omega)]
  have S4 : RSt I4 (A + 1) ro1 := by
    refine ⟨fun v hv => ?_, ?_, fun k hk => absurd hk (by rw [ncl1]; omega)⟩
    · rcases (by omega : v = 0 ∨ v = 1) with rfl | rfl
      · exact R3.fr (fun y h1 h2 => f4 y (by omega))
      · exact R4
    · rw [f0 _ (by omega) (by omega), M1.1]; exact ro1_cl.symm
  obtain ⟨I5, e5, f5, S5⟩ := F_cls (J := J3) (Z := some (A + 418)) G3 S4
  have f9 : ∀ y, (y < A + 1 ∨ (A + 68 ≤ y ∧ y < A + 405)) → I5 y = I1 y := fun y hy => by rw [f5 y (by omega) (by omega), f0 y (by omega) (by omega)]
  refine ⟨gN g1 (A + 417) 6 0, I5, J3, e1.trans ?_, fun a ha => ⟨(s1 a ha).1.trans (gN_s (by omega)), by rw [f9 a (by omega), (s1 a ha).2]⟩, G3, S5, by omega, by rw [f9 A (by omega), z2], ⟨0, by omega, by rw [f9 A (by omega), z1], fun j hj => absurd hj (by omega)⟩, fun i hi => ?_⟩
  · show bX8_init_99 (lX8_init_99 0) A (nI 2) (mm g1 I1 J1 (some (A + 417))) = _
    unfold bX8_init_99
    rw [if_pos (nI_le (by omega) (by omega)), G1.p0, Option.bind_some, st_p0 G1.S, Option.bind_some, st_lib G1.S (v := 0) (by omega), Option.bind_some, e2, bd_some, G1.p0, Option.bind_some, st_p0 G1.S, Option.bind_some, st_lib G1.S (v := 0) (by omega), Option.bind_some, lib_p10 L0, Option.bind_some, e3, bd_some, G3.p0, Option.bind_some, st_p0 G3.S, Option.bind_some, st_lib G3.S (v := 1) (by omega), Option.bind_some, Option.bind_some, st_p0 G3.S, Option.bind_some, st_lib G3.S (v := 0) (by omega), Option.bind_some, lib_cv (G3.lib (v := 1) (by omega)), show A + 417 + 1 = A + 418 from rfl, e4, bd_some, G3.cv, e5, bd_some]
  · rw [f9 _ (by omega)]
    unfold d0 shD
    rcases (by omega : i = 0 ∨ i = 1 ∨ i = 2 ∨ i = 3) with rfl | rfl | rfl | rfl
    · exact z3
    · exact z4
    · exact z5
    · exact z6
end Cf
