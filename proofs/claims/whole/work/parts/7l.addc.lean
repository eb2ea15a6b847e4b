/-! ===== addClient, setBase, removeClient ===== -/
def adcW (w kk : Nat → Int32) : Nat → Int32 := fun i => if 963 + 16 * ncl w ≤ i ∧ i < 963 + 16 * ncl w + 16 then kk (i - (963 + 16 * ncl w)) else if i = 962 then nI (ncl w + 1) else w i
def sbW (w kk : Nat → Int32) (q : Nat) : Nat → Int32 := fun i => if 963 + 16 * q ≤ i ∧ i < 963 + 16 * q + 16 then kk (i - (963 + 16 * q)) else w i
def drcW (w : Nat → Int32) (q : Nat) : Nat → Int32 := fun i => if 963 + 16 * q ≤ i ∧ i < 963 + 16 * (ncl w - 1) then w (i + 16) else if i = 962 then nI (ncl w - 1) else w i
section Ac
variable {g : Gr} {A R p q : Nat} {I I' : Mem} {J : Nat → Nat → Int64} {Z : Option Nat} {w w' : Nat → Int32} {n n' v u c b : Nat} {P : Nat → Nat → Int32} {d : Nat → Int32} {x y z nm pk f s : Int32} {k kk : Nat → Int32}
theorem RK.ag (h : ∀ j, j < 16 → kk j = k j) (hr : RK I p k) : RK I p kk := by
  obtain ⟨h1, q0, q1, q2, q3, q4, q5, q6⟩ := hr
  exact ⟨fun j hj => by rw [h j (by omega)]; exact h1 j hj, q0.trans (h 8 (by decide)).symm, q1.trans (h 9 (by decide)).symm, q2.trans (h 10 (by decide)).symm, q3.trans (h 11 (by decide)).symm, q4.trans (h 13 (by decide)).symm, q5.trans (h 14 (by decide)).symm, q6.trans (h 15 (by decide)).symm⟩
theorem CKE.ag (h : ∀ j, j < 16 → kk j = k j) (hr : CKE k) : CKE kk := by
  obtain ⟨u, c, b, h1, h2⟩ := hr
  exact ⟨u, c, b, h1.cg h, h2.cg h⟩
theorem w_low (hw : ∀ i, i < 962 → w' i = w i) (hv : v < 2) : (∀ c p, c < 10 → p < 8 → cl w' v c p = cl w v c p) ∧ mn w' v = mn w v ∧ ∀ m p, m < 40 → p < 10 → mb w' v m p = mb w v m p :=
  ⟨fun c p hc hp => hw _ (by omega), hw _ (by omega), fun m p hm hp => hw _ (by omega)⟩
theorem ncl_of (hn : n' ≤ 12) (h : w' 962 = nI n') : ncl w' = n' := by unfold ncl; rw [h, nI_clamp (by omega)]
theorem WS.cli (h : WS w) (hw : ∀ i, i < 962 → w' i = w i) (hn : n' ≤ 12) (h9 : w' 962 = nI n') (hk : ∀ k, k < n' → CKE (rowC w' k)) : WS w' := by
  have e := ncl_of hn h9
  refine ⟨fun v hv => ?_, by rw [e]; exact hn, by rw [e]; exact h9, by rw [e]; exact hk⟩
  obtain ⟨a1, a2, a3⟩ := w_low hw hv
  exact ⟨(h.1 v hv).1.cg a1, (h.1 v hv).2.cg a2 (fun m p hm hp => a3 m p ((h.1 v hv).2.m40 hm) hp) a1⟩
theorem RSt.cli {s : Nat} (h : RSt I s w) (hW : WS w) (hw : ∀ i, i < 962 → w' i = w i) (hf : ∀ y, s + 3 ≤ y → y < s + 43 → I' y = I y) (hn : n' ≤ 12) (h9 : w' 962 = nI n') (h2 : I' s 2 = nI n') (hk : ∀ k, k < n' → RK I' (s + 43 + 2 * k) (rowC w' k)) : RSt I' s w' := by
  have e := ncl_of hn h9
  refine ⟨fun v hv => ?_, h2.trans h9.symm, by rw [e]; exact hk⟩
  obtain ⟨a1, a2, a3⟩ := w_low hw hv
  exact ((h.1 v hv).fr (fun y y1 y2 => hf y (by omega) (by omega))).cg (hW.1 v hv).1 a1 a2 (fun m p hm hp => a3 m p ((hW.1 v hv).2.m40 hm) hp)
theorem RelC.cli (h : RelC I A w n P d) (hW : Wf w n P d) (hS : RSt I' (A + 1) w') (hf : ∀ y, A ≤ y → y < A + 405 → (y < A + 1 ∨ A + 68 ≤ y) → I' y = I y) : RelC I' A w' n P d := by
  obtain ⟨h1, h2, h3, ⟨o, o1, o2, o3⟩, h5⟩ := h
  exact ⟨hS, h2, by rw [hf A (by omega) (by omega) (by omega)]; exact h3, ⟨o, o1, by rw [hf A (by omega) (by omega) (by omega)]; exact o2, fun j hj => (o3 j hj).fr (fun y a b _ _ => hf y (by omega) (by omega) (by omega)) (hW.2.1 j hj).2.1⟩, fun i hi => by rw [hf _ (by omega) (by omega) (by omega)]; exact h5 i hi⟩
theorem RelM.cli (h : RelM I R w n P d) (h1 : I' (R + 1) = w') (hz : ∀ i, 1155 ≤ i → w' i = 0) (hf : ∀ y, y ≠ R → y ≠ R + 1 → y ≠ R + 4 → y ≠ R + 5 → y ≠ R + 6 → y ≠ R + 7 → I' y = I y) (h2 : I' R 2 = I R 2) : RelM I' R w' n P d := by
  obtain ⟨r1, r2, r3, r4, r5, r6⟩ := h
  exact ⟨h1, hz, r3, h2.trans r4, fun j hj => ⟨fun i hi => by rw [hf _ (by omega) (by omega) (by omega) (by omega) (by omega) (by omega)]; exact (r5 j hj).1 i hi, (r5 j hj).2⟩, by rw [hf _ (by omega) (by omega) (by omega) (by omega) (by omega) (by omega)]; exact r6⟩
theorem kk_lo {k f : Nat → Int32} {j : Nat} (h : j < 8) : kkR k f j = k j := if_pos h
theorem kk_hi {k f : Nat → Int32} {j : Nat} : kkR k f (8 + j) = f j := by unfold kkR; rw [if_neg (by omega), show 8 + j - 8 = j from by omega]
theorem kk_CK {f : Nat → Int32} (h : CK k u c b) : CK (kkR k f) u c b := by
  unfold CK at h ⊢
  rw [kk_lo (by decide), kk_lo (by decide), kk_lo (by decide), kk_lo (by decide), kk_lo (by decide), kk_lo (by decide), kk_lo (by decide)]
  exact h
theorem kk_RK {f : Nat → Int32} (h1 : ∀ j, j < 8 → I p j = k j) (h2 : SymR I (p + 1) f) : RK I p (kkR k f) := by
  refine ⟨fun j hj => by rw [kk_lo hj]; exact h1 j hj, ?_⟩
  obtain ⟨q0, q1, q2, q3, q4, q5, q6⟩ := h2
  exact ⟨q0.trans (kk_hi (j := 0)).symm, q1.trans (kk_hi (j := 1)).symm, q2.trans (kk_hi (j := 2)).symm, q3.trans (kk_hi (j := 3)).symm, q4.trans (kk_hi (j := 5)).symm, q5.trans (kk_hi (j := 6)).symm, q6.trans (kk_hi (j := 7)).symm⟩
/-! the reference makes and compiles the client of a call -/
theorem M_mk (h : MRel g A I w n P d) (hu : u < 6) (hc : c < 10) (hn : u ≤ 2 → ∃ q, q < 8 ∧ nm = nI q) : ∃ I2, (∀ {γ : Type} (K : Int32 → AH → Option γ), ((gP 9 (A + 418) 4 (mm g I J Z)).bind fun a_32 => (ldI a_32 (nI 1) (mm g I J Z)).bind fun x_33 => (gP 9 (A + 418) 4 (mm g I J Z)).bind fun a_34 => (ldI a_34 (nI 2) (mm g I J Z)).bind fun x_35 => (gP 9 (A + 418) 4 (mm g I J Z)).bind fun a_36 => (ldI a_36 (nI 3) (mm g I J Z)).bind fun x_37 => cv 9 (A + 418) (fX9_makes (A + 418) (nI u) (nI c) nm pk x_33 x_35 x_37) (mm g I J Z) fun _ h => cv 9 (A + 418) (fX9_compiled (A + 418) (nI 0)) h K) = K (comS w 0 (mkR u c nm pk (d 1) (d 2) (d 3)) u c 0).1 (mm g I2 J Z)) ∧ FvR (A + 418) I I2 ∧ (∀ j, j < 8 → I2 (A + 418 + 5) j = mkR u c nm pk (d 1) (d 2) (d 3) j) ∧ ∀ j, j < 8 → I2 (A + 418 + 6) j = (comS w 0 (mkR u c nm pk (d 1) (d 2) (d 3)) u c 0).2 j := by
  obtain ⟨r1, r2, r3, r4, r5, r6, r7, r8, r9⟩ := h.2.1
  have hPt := h.2.2.2.2.2
  obtain ⟨I1, a1, a2, a3⟩ := M_makes (I := I) (J := J) (Z := Z) (u := u) (c := c) (nm := nm) (pk := pk) (mm0 := d 1) (f := I (A + 418 + 3) 2) (s := I (A + 418 + 3) 3) h.G hu
  have e2 : (if d 1 ≤ 0 then -2 else I (A + 418 + 3) 2) = d 2 := by
    rcases r8 with e | e
    · rw [e]; exact hPt.d0.1
    · have := hPt.d0.1
      rw [e, if_pos (by decide)] at this ⊢
      exact this
  have e3 : (if d 1 ≤ nI 1 then -2 else I (A + 418 + 3) 3) = d 3 := by
    rcases hPt with ⟨q1, q2, q3⟩ | ⟨q1, q2, q3⟩ | ⟨q1, q2, q3⟩
    · rw [q1, if_pos (by decide), q3]
    · rw [q1, if_pos (by decide), q3]
    · rw [q1, if_neg (by decide)]
      rcases r9 with e | e
      · exact e
      · rw [q1] at e; exact absurd e (by decide)
  rw [e2, e3] at a3
  have a3' : ∀ j, j < 8 → I1 (A + 418 + 5) j = mkR u c nm pk (d 1) (d 2) (d 3) j := fun j hj => by rw [a3 j, if_pos hj]
  have h1 := h.fvm (fvm_5 a2)
  have ag : ∀ j, j < 16 → kkR (mkR u c nm pk (d 1) (d 2) (d 3)) (fun i => I1 (A + 418 + 5) (i + 8)) j = I1 (A + 418 + 5) j := fun j hj => by
    unfold kkR
    by_cases z : j < 8
    · rw [if_pos z, a3' j z]
    · rw [if_neg z]; show I1 (A + 418 + 5) (j - 8 + 8) = _; rw [show j - 8 + 8 = j from by omega]
  have hK : CK (I1 (A + 418 + 5)) u c 0 := (kk_CK (f := fun i => I1 (A + 418 + 5) (i + 8)) (mk_CK hu hc hn hPt)).cg (fun j hj => (ag j hj).symm)
  obtain ⟨I2, b1, b2, b3⟩ := M_comp (J := J) (Z := Z) (h1.mb (v := 0) (by omega)) hK
  have ec : comS w 0 (I1 (A + 418 + 5)) u c 0 = comS w 0 (mkR u c nm pk (d 1) (d 2) (d 3)) u c 0 := by
    unfold comS cfE caE
    have q2 := a3' 2 (by decide)
    have q3 := a3' 3 (by decide)
    have qa : apB w 0 (I1 (A + 418 + 5)) c 0 = apB w 0 (mkR u c nm pk (d 1) (d 2) (d 3)) c 0 := by
      funext m
      unfold apB
      rw [q2, q3, a3' 5 (by decide), a3' 6 (by decide), a3' 7 (by decide)]
    have qf : ∀ o, cfO w 0 (I1 (A + 418 + 5)) u 0 o = cfO w 0 (mkR u c nm pk (d 1) (d 2) (d 3)) u 0 o := fun o => by
      cases o with
      | none => rfl
      | some m =>
        show cfM w 0 (I1 (A + 418 + 5)) u 0 m = cfM w 0 (mkR u c nm pk (d 1) (d 2) (d 3)) u 0 m
        unfold cfM
        rw [q3]
    rw [qa, qf, q2, q3]
  rw [ec] at b1 b3
  refine ⟨I2, fun {γ} K => ?_, (fvr_5 a2).trans b2.fvr, fun j hj => by rw [b2.r5]; exact a3' j hj, b3⟩
  rw [h.G.p4, Option.bind_some, h.G.ld3 (by decide), Option.bind_some, Option.bind_some, h.G.ld3 (by decide), Option.bind_some, Option.bind_some, h.G.ld3 (by decide), Option.bind_some, r7, M_cv h.G, a1, bd_some, M_cv h.G, b1, bd_some]
theorem pk_cases (x : Int32) : (∃ q, q < 4 ∧ x = nI q) ∨ ((∀ h : AH, fX8_isPackage x h = some (bI false, h)) ∧ ∀ h : AH, fX9_within x (nI 0) (nI 3) h = some (bI false, h)) := by
  rcases int_x x 4 (by omega) with hx | ⟨v, hv, e⟩
  · refine Or.inr ⟨fun h => ?_, fun h => wi_no hx (by omega) h⟩
    unfold fX8_isPackage
    by_cases h0 : x < 0
    · rw [if_pos h0, rz_n0]
    · rw [if_neg h0, if_pos (hx.resolve_left h0), rz_n0]
  · exact Or.inl ⟨v, hv, e⟩
theorem C_isPk {q : Nat} (hk : q < 4) (h : AH) : fX8_isPackage (nI q) h = some (bI true, h) := by
  unfold fX8_isPackage
  rw [if_neg (nI_pos (by omega)), if_neg (nI_ge (by omega) (by omega)), rz_n1]
/-- the class makes and compiles it -/
theorem C_mk (h : Rel g A I w n P d) (hu : u < 6) (hc : c < 10) (hn : u ≤ 2 → ∃ q, q < 8 ∧ nm = nI q) : ∃ I2, fX8_addClient_61 A (nI u) (nI c) nm pk (mm g I J Z) = fX8_addClient_106 A (mm g I2 J Z) ∧ FvC A I I2 ∧ ∀ j, j < 8 → I2 (A + 405) j = mkR u c nm pk (d 1) (d 2) (d 3) j := by
  have hp := h.jg.pb.1
  obtain ⟨I1, a1, a2, a3, a4⟩ := C_put (I := I) (J := J) (Z := Z) (u := u) (c := c) (nm := nm) (pk := pk) hp hu
  have f1 : FvC A I I1 := fun y h1 h2 h3 => a2 y (by omega) (by omega)
  have h1 := h.fvc f1
  unfold fX8_addClient_61
  rw [h.jg.p5, Option.bind_some, cln_cv hp, a1, bd_some]
  by_cases e : u = 2
  · subst e
    obtain ⟨I2, b1, b2, b3⟩ := C_putA (J := J) (Z := Z) (mm0 := d 1) (f := d 2) (s := d 3) hp a3
    refine ⟨I2, ?_, f1.trans (fun y h1 h2 h3 => b2 y (by omega)), b3⟩
    rw [if_pos rfl, h.jg.p5, Option.bind_some, h.jg.p4, Option.bind_some, h1.D (by decide), Option.bind_some, Option.bind_some, h1.D (by decide), Option.bind_some, Option.bind_some, h1.D (by decide), Option.bind_some, cln_cv hp, b1, bd_some]
  · refine ⟨I1, by rw [if_neg (fun q => e (nI_inj (by omega) (by omega) q))], f1, fun j hj => ?_⟩
    rw [a3 j hj]
    rcases (by omega : j = 0 ∨ j = 1 ∨ j = 2 ∨ j = 3 ∨ j = 4 ∨ j = 5 ∨ j = 6 ∨ j = 7) with rfl | rfl | rfl | rfl | rfl | rfl | rfl | rfl
    · rfl
    · rfl
    · rfl
    · rfl
    · rfl
    · show (if u = 2 then _ else _) = (if u = 2 then _ else _); rw [if_neg e, if_neg e]
    · show (if u = 2 then _ else _) = (if u = 2 then _ else _); rw [if_neg e, if_neg e]
    · show (if u = 2 then _ else _) = (if u = 2 then _ else _); rw [if_neg e, if_neg e]
/-! the rows -/
theorem adc_lo {i : Nat} (h : i < 962) : adcW w kk i = w i := by unfold adcW; rw [if_neg (by omega), if_neg (by omega)]
theorem adc_n : adcW w kk 962 = nI (ncl w + 1) := by unfold adcW; rw [if_neg (by omega), if_pos rfl]
theorem adc_old (hk : q < ncl w) {j : Nat} (hj : j < 16) : rowC (adcW w kk) q j = rowC w q j := by
  show adcW w kk (963 + 16 * q + j) = _
  unfold adcW
  rw [if_neg (by omega), if_neg (by omega)]; rfl
theorem adc_new {j : Nat} (hj : j < 16) : rowC (adcW w kk) (ncl w) j = kk j := by
  show adcW w kk (963 + 16 * ncl w + j) = _
  unfold adcW
  rw [if_pos (by omega), show 963 + 16 * ncl w + j - (963 + 16 * ncl w) = j from by omega]
theorem adc_z (hn : ncl w < 12) (hz : ∀ i, 1155 ≤ i → w i = 0) : ∀ i, 1155 ≤ i → adcW w kk i = 0 := fun i hi => by
  unfold adcW
  rw [if_neg (by omega), if_neg (by omega)]
  exact hz i hi
theorem adc_WS (h : WS w) (hn : ncl w < 12) (hk : CKE kk) : WS (adcW w kk) := by
  refine h.cli (n' := ncl w + 1) (fun i hi => adc_lo hi) (by omega) adc_n (fun q hq => ?_)
  by_cases e : q = ncl w
  · subst e; exact hk.ag (fun j hj => adc_new hj)
  · exact (h.2.2.2 q (by omega)).ag (fun j hj => adc_old (by omega) hj)
theorem C_append (h : RSt I (A + 1) w) (hW : WS w) (hG : JG g A) (hn : ncl w < 12) (hk : RK I (A + 405) kk) (hb : kk 8 = nI 0 ∨ kk 8 = nI 1) : ∃ I', fX6_append (A + 1) (A + 405) (mm g I J Z) = some ((), mm g I' J Z) ∧ (∀ y, y < A + 1 ∨ A + 68 ≤ y → I' y = I y) ∧ RSt I' (A + 1) (adcW w kk) ∧ I' (A + 1) 2 = nI (ncl w + 1) := by
  have hp := hG.pb.1
  have h2 : I (A + 1) 2 = nI (ncl w) := h.2.1.trans hW.2.2.1
  obtain ⟨I1, a1, a2, a3, a4⟩ := C_clCopy (I := I) (J := J) (Z := Z) (p := A + 1 + 43 + 2 * ncl w) (r := A + 405) (hG.S.cli (by omega)) hp (by omega) (by omega) (by omega) (by rw [hk.s0]; exact hb)
  have q2 : I1 (A + 1) 2 = nI (ncl w) := by rw [a2 _ (by omega) (by omega)]; exact h2
  refine ⟨up2 I1 (A + 1) 2 (nI (ncl w + 1)), ?_, fun y hy => by rw [up2_ne (by omega), a2 y (by omega) (by omega)], h.cli hW (n' := ncl w + 1) (fun i hi => adc_lo hi) (fun y h1 h2 => by rw [up2_ne (by omega), a2 y (by omega) (by omega)]) (by omega) adc_n (by rw [up2_at, if_pos rfl]) (fun q hq => ?_), by rw [up2_at, if_pos rfl]⟩
  · unfold fX6_append
    rw [st_p1 hG.S, Option.bind_some, gI_m hG.S.1, Option.bind_some, h2, st_cli hG.S hn, Option.bind_some, cln_cv (hG.S.cli hn), a1, bd_some, gI_m hG.S.1, Option.bind_some, q2, nI_add, pI_m hG.S.1, Option.bind_some]
  · by_cases e : q = ncl w
    · subst e
      exact ((hk.cp a3 a4).fr (up2_ne (by omega)) (up2_ne (by omega))).ag (fun j hj => adc_new hj)
    · exact ((h.2.2 q (by omega)).fr (I' := up2 I1 (A + 1) 2 (nI (ncl w + 1))) (by rw [up2_ne (by omega), a2 _ (by omega) (by omega)]) (by rw [up2_ne (by omega), a2 _ (by omega) (by omega)])).ag (fun j hj => adc_old (by omega) hj)
/-- what comes: the reference keeps the client -/
theorem M_comes (h : MRel g A I w n P d) (hu : u < 6) (hc : c < 10) (hn : u ≤ 2 → ∃ q, q < 8 ∧ nm = nI q) (hcl : ncl w < 12) : ∃ I2, fX9_comes (A + 418) (nI u) (nI c) nm pk (mm g I J Z) = some ((), mm g I2 J Z) ∧ (∀ y, y ≠ A + 418 → y ≠ A + 418 + 1 → y ≠ A + 418 + 4 → y ≠ A + 418 + 5 → y ≠ A + 418 + 6 → y ≠ A + 418 + 7 → I2 y = I y) ∧ I2 (A + 418) 2 = I (A + 418) 2 ∧ I2 (A + 418) 3 = I (A + 418) 3 ∧ I2 (A + 418 + 1) = adcW w (kkR (mkR u c nm pk (d 1) (d 2) (d 3)) (comS w 0 (mkR u c nm pk (d 1) (d 2) (d 3)) u c 0).2) := by
  obtain ⟨I1, a1, a2, a3, a4⟩ := M_mk (J := J) (Z := Z) (pk := pk) h hu hc hn
  have h1 := h.fvm a2.1
  obtain ⟨I2, b1, b2, b3⟩ := M_keeps (I := I1) (J := J) (Z := Z) h.G
  have r2 : I2 (A + 418 + 1) = w := (b2 _ (by omega)).trans h1.row
  obtain ⟨I3, c1, c2, c3⟩ := M_lies (I := I2) (J := J) (Z := Z) h.G (n := ncl w) hcl
  have e962 : I3 (A + 418 + 1) 962 = nI (ncl w) := by rw [c3, if_neg (by omega), r2]; exact h.W.2.2.1
  refine ⟨up2 I3 (A + 418 + 1) 962 (nI (ncl w + 1)), ?_, fun y q1 q2 q3 q4 q5 q6 => by rw [up2_ne q2, c2 y q2, b2 y q4, a2.1.1 y q1 q3 q4 q5 q6], by rw [up2_ne (by omega), c2 _ (by omega), b2 _ (by omega), a2.1.2], by rw [up2_ne (by omega), c2 _ (by omega), b2 _ (by omega), a2.2], ?_⟩
  · unfold fX9_comes
    have hmn : fX9_clientMany (A + 418) (mm g I2 J Z) = some (nI (ncl w), mm g I2 J Z) := M_cmany (h1.fvm (fvm_5 b2))
    refine (a1 _).trans ?_
    rw [M_cv h.G, b1, bd_some, M_cv h.G, hmn, bd_some, M_cv h.G, c1, bd_some, h.G.p0, Option.bind_some, h.G.ld1 (by omega), Option.bind_some, e962, nI_add, h.G.st1 (by omega), Option.bind_some]
  · funext i
    rw [up2_at]
    unfold adcW
    by_cases z : i = 962
    · rw [if_pos z, if_neg (by omega), if_pos z]
    · rw [if_neg z, c3 i, if_neg z]
      by_cases zz : 963 + 16 * ncl w ≤ i ∧ i < 963 + 16 * ncl w + 16
      · rw [if_pos zz, if_pos zz, b3]
        unfold kkR
        by_cases z8 : i - (963 + 16 * ncl w) < 8
        · rw [if_neg (by omega), if_pos z8]; exact a3 _ z8
        · rw [if_pos (by omega), if_neg z8]; exact a4 _ (by omega)
      · rw [if_neg zz, if_neg zz, r2]
theorem Q_addClient (h : Rel g A I w n P d) : Agr g A I (fX8_addClient A x y nm pk) (fX9_addClient (A + 418) x y nm pk) [2, 3] := by
  have ref : ∀ {i : Nat}, i < 3 → ∀ I1 J Z, MRel g A I1 w n P d → fX9_addClient_122 (A + 418) x y nm pk (A + 418) (nI (i + 1)) (mm g I1 J Z) = some (nI 0, mm g (up2 I1 (A + 418) 3 (nI (i + 1))) J Z) := by
    intro i hi I1 J Z h1
    unfold fX9_addClient_122
    rw [M_cv h1.G, M_refS h1.G hi, bd_some, bIf, if_tt]
  have e48 : ∀ I1 J Z, MRel g A I1 w n P d → fX9_addClient_48 (A + 418) x y nm pk (mm g I1 J Z) = some (nI 0, mm g (up2 I1 (A + 418) 3 (nI 1)) J Z) := by
    intro I1 J Z h1
    unfold fX9_addClient_48 fX9_addClient_49 fX9_addClient_98
    rw [if_pos (by decide), if_pos (by decide)]
    exact ref (i := 0) (by decide) I1 J Z h1
  have bad : (∀ J Z, fX8_addClient A x y nm pk (mm g I J Z) = some (.inl 2, mm g I J none)) → (∀ I1 J Z, MRel g A I1 w n P d → fX9_addClient (A + 418) x y nm pk (mm g I1 J Z) = fX9_addClient_48 (A + 418) x y nm pk (mm g I1 J Z)) → Agr g A I (fX8_addClient A x y nm pk) (fX9_addClient (A + 418) x y nm pk) [2, 3] := by
    intro b1 b2
    exact Agr.rfs h (i := 0) (e := 2) ⟨by decide, rfl⟩ (fun J Z => ⟨I, none, b1 J Z, FvC.refl⟩) (fun I1 J Z h1 => ⟨nI 0, up2 I1 (A + 418) 3 (nI 1), by rw [b2 I1 J Z h1]; exact e48 I1 J Z h1, fvm_3, up3⟩)
  rcases int_x x 6 (by omega) with hx | ⟨u, hu, rfl⟩
  · refine bad (fun J Z => ?_) (fun I1 J Z h1 => ?_)
    · unfold fX8_addClient
      by_cases h0 : x < 0
      · rw [if_pos h0, thr_m]
      · rw [if_neg h0, if_pos (Int32.lt_of_lt_of_le (by decide : nI 5 < nI 6) (hx.resolve_left h0)), thr_m]
    · unfold fX9_addClient
      rw [wi_no hx (by omega), bd_some, bIf, if_ff]
  · have u0 : ¬ nI u < 0 := nI_pos (by omega)
    have u5 : ¬ nI 5 < nI u := nI_nlt (by omega) (by omega)
    rcases int_x y 10 (by omega) with hy | ⟨c, hc, rfl⟩
    · refine bad (fun J Z => ?_) (fun I1 J Z h1 => ?_)
      · unfold fX8_addClient
        rw [if_neg u0, if_neg u5]
        by_cases h0 : y < 0
        · rw [if_pos h0, thr_m]
        · rw [if_neg h0, if_pos (hy.resolve_left h0), thr_m]
      · unfold fX9_addClient
        rw [wi_yes (by omega) (by omega), bd_some, bIf, if_tt, wi_no hy (by omega), bd_some, bIf, if_ff]
    · have c0 : ¬ nI c < 0 := nI_pos (by omega)
      have c9 : ¬ nI 10 ≤ nI c := nI_ge hc (by omega)
      rcases pk_cases pk with ⟨pq, hpq, rfl⟩ | ⟨p1, p2⟩
      · have go : (u ≤ 2 → ∃ q, q < 8 ∧ nm = nI q) → (∀ J Z, fX8_addClient A (nI u) (nI c) nm (nI pq) (mm g I J Z) = fX8_addClient_61 A (nI u) (nI c) nm (nI pq) (mm g I J Z)) → (∀ I1 J Z, MRel g A I1 w n P d → fX9_addClient (A + 418) (nI u) (nI c) nm (nI pq) (mm g I1 J Z) = fX9_addClient_49 (A + 418) (nI u) (nI c) nm (nI pq) (nI 1) (mm g I1 J Z)) → Agr g A I (fX8_addClient A (nI u) (nI c) nm (nI pq)) (fX9_addClient (A + 418) (nI u) (nI c) nm (nI pq)) [2, 3] := by
          intro hn gC gM
          have hPt := h.2.2.2.2.2.2.2
          have hK := mk_CK (pk := nI pq) hu hc hn hPt
          have hcl := h.nc
          -- the reference behind the compiler
          have m49 : ∀ I1 J Z, MRel g A I1 w n P d → ∃ I2, fX9_addClient (A + 418) (nI u) (nI c) nm (nI pq) (mm g I1 J Z) = fX9_addClient_98 (A + 418) (nI u) (nI c) nm (nI pq) (bI (decide ((comS w 0 (mkR u c nm (nI pq) (d 1) (d 2) (d 3)) u c 0).1 = nI 0))) (mm g I2 J Z) ∧ FvM (A + 418) I1 I2 := by
            intro I1 J Z h1
            obtain ⟨I2, a1, a2, a3, a4⟩ := M_mk (J := J) (Z := Z) (pk := nI pq) h1 hu hc hn
            refine ⟨I2, ?_, a2.1⟩
            rw [gM I1 J Z h1]
            unfold fX9_addClient_49 fX9_addClient_96
            rw [if_neg (by decide)]
            refine (a1 _).trans ?_
            rw [err_if]
            cases decide ((comS w 0 (mkR u c nm (nI pq) (d 1) (d 2) (d 3)) u c 0).1 = nI 0)
            · rw [if_ff, bf0]
            · rw [if_tt, bt1]
          -- the class up to the compiler
          have c61 : ∀ J Z, ∃ I2, fX8_addClient A (nI u) (nI c) nm (nI pq) (mm g I J Z) = fX8_addClient_106 A (mm g I2 J Z) ∧ FvC A I I2 ∧ ∀ j, j < 8 → I2 (A + 405) j = mkR u c nm (nI pq) (d 1) (d 2) (d 3) j := by
            intro J Z
            obtain ⟨I2, a1, a2, a3⟩ := C_mk (J := J) (Z := Z) (pk := nI pq) h hu hc hn
            exact ⟨I2, by rw [gC]; exact a1, a2, a3⟩
          by_cases e : (comS w 0 (mkR u c nm (nI pq) (d 1) (d 2) (d 3)) u c 0).1 = nI 0
          · by_cases e12 : ncl w = 12
            · refine Agr.rfs h (i := 1) (e := 3) ⟨by decide, rfl⟩ (fun J Z => ?_) (fun I1 J Z h1 => ?_)
              · obtain ⟨I2, a1, a2, a3⟩ := c61 J Z
                have h2 := h.fvc a2
                obtain ⟨I3, b1, b2, b3, b4, b5⟩ := C_cprobe (J := J) (Z := Z) h2 a3 hK
                refine ⟨I3, none, ?_, a2.trans b2⟩
                rw [a1]
                unfold fX8_addClient_106
                rw [h.jg.cv, b1, bd_some, decide_eq_true e, bIf, if_tt, h.jg.p0, Option.bind_some, (h2.fvc b2).sz, Option.bind_some, e12, if_neg (by decide), thr_m]
              · obtain ⟨I2, a1, a2⟩ := m49 I1 J Z h1
                refine ⟨nI 0, up2 I2 (A + 418) 3 (nI 2), ?_, a2.trans fvm_3, up3⟩
                rw [a1, decide_eq_true e]
                unfold fX9_addClient_98
                rw [bt1, if_neg (by decide), M_cv h1.G, M_cmany (h1.fvm a2), bd_some, e12, if_pos rfl]
                exact ref (i := 1) (by decide) I2 J Z (h1.fvm a2)
            · have hlt : ncl w < 12 := by omega
              have hW0 := h.W.1 0 (by omega)
              have hSK := com_SK hW0.2 hW0.1 e
              have hCK := kk_CK (f := (comS w 0 (mkR u c nm (nI pq) (d 1) (d 2) (d 3)) u c 0).2) hK
              have hWp := h.2.2.2.2.push
              have hW' := adc_WS (kk := kkR (mkR u c nm (nI pq) (d 1) (d 2) (d 3)) (comS w 0 (mkR u c nm (nI pq) (d 1) (d 2) (d 3)) u c 0).2) h.W hlt ⟨u, c, 0, hCK, hSK⟩
              refine Agr.mod h (b := nI (ncl w)) (w' := adcW w (kkR (mkR u c nm (nI pq) (d 1) (d 2) (d 3)) (comS w 0 (mkR u c nm (nI pq) (d 1) (d 2) (d 3)) u c 0).2)) (n' := pushN n) (P' := pushP P n w) (d' := d) (fun J Z => ?_) (fun I1 J Z h1 => ?_) ⟨hW', hWp.2⟩
              · obtain ⟨I2, a1, a2, a3⟩ := c61 J Z
                have h2 := h.fvc a2
                obtain ⟨I3, b1, b2, b3, b4, b5⟩ := C_cprobe (J := J) (Z := Z) h2 a3 hK
                have h3 := h2.fvc b2
                obtain ⟨I4, s1, s2, s3⟩ := C_save (J := J) (Z := Z) h.jg h3.2.2.1 h.2.2.2.2
                have hRK : RK I4 (A + 405) (kkR (mkR u c nm (nI pq) (d 1) (d 2) (d 3)) (comS w 0 (mkR u c nm (nI pq) (d 1) (d 2) (d 3)) u c 0).2) := (kk_RK b3 (b4 e)).fr (s3 _ (by omega) (by omega)) (s3 _ (by omega) (by omega))
                obtain ⟨I5, t1, t2, t3, t4⟩ := C_append (J := J) (Z := Z) s2.1 h.W h.jg hlt hRK hSK.1
                refine ⟨I5, Z, ?_, s2.cli hWp t3 (fun y y1 y2 y3 => t2 y y3), fun y hy => by rw [t2 y (by omega), s3 y (by omega) (by omega), b2 y (by omega) (by omega) (by omega), a2 y (by omega) (by omega) (by omega)]⟩
                rw [a1]
                unfold fX8_addClient_106
                rw [h.jg.cv, b1, bd_some, decide_eq_true e, bIf, if_tt, h.jg.p0, Option.bind_some, h3.sz, Option.bind_some, if_pos (nI_lt hlt (by omega)), h.jg.cv, s1, bd_some, h.jg.p0, Option.bind_some, h.jg.p5, Option.bind_some, cv_m h.jg.S.1, t1, bd_some, h.jg.p0, Option.bind_some, gI_m h.jg.S.1, Option.bind_some, t4, show nI (ncl w + 1) - nI 1 = nI (ncl w) from nI_pred _]
              · obtain ⟨I2, a1, a2⟩ := m49 I1 J Z h1
                have h2 := (h1.fvm a2).up3 (x := nI 0)
                obtain ⟨I3, s1, s2, s3, s4⟩ := M_save (J := J) (Z := Z) h2.G h2.2.1
                have h3 : MRel g A I3 w (pushN n) (pushP P n w) d := ⟨h1.G, s2, hWp⟩
                obtain ⟨I4, t1, t2, t3, t4, t5⟩ := M_comes (J := J) (Z := Z) (pk := nI pq) h3 hu hc hn hlt
                refine ⟨I4, ?_, s2.cli t5 (adc_z hlt h3.2.1.2.1) t2 t3, fun y hy => by rw [t2 y (by omega) (by omega) (by omega) (by omega) (by omega) (by omega), s3 y (by omega) (by omega), up2_ne (by omega), a2.1 y (by omega) (by omega) (by omega) (by omega) (by omega)], by rw [t4, s4 3 (by decide), up3]⟩
                rw [a1, decide_eq_true e]
                unfold fX9_addClient_98 fX9_addClient_122
                rw [bt1, if_neg (by decide), M_cv h1.G, M_cmany (h1.fvm a2), bd_some, if_neg (fun q => e12 (nI_inj (by omega) (by omega) q)), M_cv h1.G, M_ref0 h1.G, bd_some, bIf, if_ff, M_cv h1.G, s1, bd_some, M_cv h1.G, t1, bd_some, M_cv h1.G]
                unfold fX9_clientMany
                rw [h1.G.p0, Option.bind_some, h1.G.ld1 (by omega), Option.bind_some, t5, adc_n, bd_some, show nI (ncl w + 1) - nI 1 = nI (ncl w) from nI_pred _]
          · refine Agr.rfs h (i := 0) (e := 2) ⟨by decide, rfl⟩ (fun J Z => ?_) (fun I1 J Z h1 => ?_)
            · obtain ⟨I2, a1, a2, a3⟩ := c61 J Z
              have h2 := h.fvc a2
              obtain ⟨I3, b1, b2, b3, b4, b5⟩ := C_cprobe (J := J) (Z := Z) h2 a3 hK
              refine ⟨I3, none, ?_, a2.trans b2⟩
              rw [a1]
              unfold fX8_addClient_106
              rw [h.jg.cv, b1, bd_some, decide_eq_false e, bIf, if_ff, thr_m]
            · obtain ⟨I2, a1, a2⟩ := m49 I1 J Z h1
              refine ⟨nI 0, up2 I2 (A + 418) 3 (nI 1), ?_, a2.trans fvm_3, up3⟩
              rw [a1, decide_eq_false e]
              unfold fX9_addClient_98
              rw [bf0, if_pos (by decide)]
              exact ref (i := 0) (by decide) I2 J Z (h1.fvm a2)
        by_cases u2 : u ≤ 2
        · have n2 : ¬ nI 2 < nI u := nI_nlt u2 (by omega)
          rcases nam_cases nm with ⟨qn, hqn, rfl⟩ | ⟨z1, z2, z3⟩
          · refine go (fun _ => ⟨qn, hqn, rfl⟩) (fun J Z => ?_) (fun I1 J Z h1 => ?_)
            · unfold fX8_addClient
              rw [if_neg u0, if_neg u5, if_neg c0, if_neg c9, C_isPk hpq, bd_some, bIf, if_tt, if_neg n2, C_isName hqn, bd_some, bIf, if_tt]
            · unfold fX9_addClient fX9_addClient_34
              rw [wi_yes (by omega) (by omega), bd_some, bIf, if_tt, wi_yes (by omega) (by omega), bd_some, bIf, if_tt, if_neg n2, wi_yes (by omega) (by omega), bd_some, bIf, if_tt, wi_yes (by omega) (by omega), bd_some, bIf, if_tt]
          · refine bad (fun J Z => ?_) (fun I1 J Z h1 => ?_)
            · unfold fX8_addClient
              rw [if_neg u0, if_neg u5, if_neg c0, if_neg c9, C_isPk hpq, bd_some, bIf, if_tt, if_neg n2, z1, bd_some, bIf, if_ff, thr_m]
            · unfold fX9_addClient
              rw [wi_yes (by omega) (by omega), bd_some, bIf, if_tt, wi_yes (by omega) (by omega), bd_some, bIf, if_tt, if_neg n2, z3, bd_some, bIf, if_ff]
        · have n2 : nI 2 < nI u := nI_lt (by omega) (by omega)
          refine go (fun q => absurd q u2) (fun J Z => ?_) (fun I1 J Z h1 => ?_)
          · unfold fX8_addClient
            rw [if_neg u0, if_neg u5, if_neg c0, if_neg c9, C_isPk hpq, bd_some, bIf, if_tt, if_pos n2]
          · unfold fX9_addClient fX9_addClient_34
            rw [wi_yes (by omega) (by omega), bd_some, bIf, if_tt, wi_yes (by omega) (by omega), bd_some, bIf, if_tt, if_pos n2, wi_yes (by omega) (by omega), bd_some, bIf, if_tt]
      · refine bad (fun J Z => ?_) (fun I1 J Z h1 => ?_)
        · unfold fX8_addClient
          rw [if_neg u0, if_neg u5, if_neg c0, if_neg c9, p1, bd_some, bIf, if_ff, thr_m]
        · unfold fX9_addClient fX9_addClient_34
          rw [wi_yes (by omega) (by omega), bd_some, bIf, if_tt, wi_yes (by omega) (by omega), bd_some, bIf, if_tt]
          by_cases n2 : nI 2 < nI u
          · rw [if_pos n2, p2, bd_some, bIf, if_ff]
          · rw [if_neg n2]
            rcases nam_cases nm with ⟨qn, hqn, rfl⟩ | ⟨z1, z2, z3⟩
            · rw [wi_yes (by omega) (by omega), bd_some, bIf, if_tt, p2, bd_some, bIf, if_ff]
            · rw [z3, bd_some, bIf, if_ff]
end Ac
