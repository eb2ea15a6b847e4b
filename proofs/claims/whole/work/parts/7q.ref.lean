/-! ===== sample: the search of the reference ===== -/
def lmT (u : Nat) : Nat := if u = 2 then 133 else 1
def lmN (u : Nat) : Nat := if u ≤ 2 then 8 else 1
def SkR (g : Gr) (R : Nat) (J : Nat → Nat → Int64) (Z : Option Nat) (w : Nat → Int32) (pk x : Int32) (X : Option (Int32 × AH)) (I : Mem) (i : Nat) : Prop :=
  ∃ I', X = some (bI (fst1 (sqG w pk x) (63840 - i) i).isSome, mm g I' J Z) ∧ FvR R I I' ∧ ∀ i0, fst1 (sqG w pk x) (63840 - i) i = some i0 → ∀ j, j < 8 → I' (R + 5) j = sRi pk i0 j
section Sm
variable {g : Gr} {A R p q : Nat} {I I' : Mem} {J : Nat → Nat → Int64} {Z : Option Nat} {w w' : Nat → Int32} {n v u c b nm t i e : Nat} {P : Nat → Nat → Int32} {d : Nat → Int32} {x y z pk : Int32} {k k' : Nat → Int32} {X : Option (Int32 × AH)}
theorem SkR.to {z : Nat} (h : SkR g R J Z w pk x X I z) (hi : i ≤ z) (hz : z ≤ 63840) (hn : ∀ j, i ≤ j → j < z → sqG w pk x j = false) : SkR g R J Z w pk x X I i := by
  unfold SkR at h ⊢
  rw [fst1_to hi hz hn]
  exact h
theorem SkR.fr (h : SkR g R J Z w pk x X I' i) (hf : FvR R I I') : SkR g R J Z w pk x X I i := by
  obtain ⟨I2, h1, h2, h3⟩ := h
  exact ⟨I2, h1, hf.trans h2, h3⟩
theorem comS_8 (h : ∀ j, j < 8 → k' j = k j) : comS w v k' u c b = comS w v k u c b := by
  have q2 := h 2 (by decide)
  have q3 := h 3 (by decide)
  have qa : apB w v k' c b = apB w v k c b := by
    funext m
    unfold apB
    rw [q2, q3, h 5 (by decide), h 6 (by decide), h 7 (by decide)]
  have qf : ∀ o, cfO w v k' u b o = cfO w v k u b o := fun o => by
    cases o with
    | none => rfl
    | some m =>
      show cfM w v k' u b m = cfM w v k u b m
      unfold cfM
      rw [q3]
  unfold comS cfE caE
  rw [qa, qf, q2, q3]
theorem CK_8 (h : ∀ j, j < 8 → k' j = k j) (hK : CK k u c b) : CK k' u c b := by
  obtain ⟨h1, h2, h3, h4, h5, h6, h7, h8⟩ := hK
  refine ⟨h1, h2, h3, (h 0 (by decide)).trans h4, (h 1 (by decide)).trans h5, (h 4 (by decide)).trans h6, fun q => ?_, fun q => ?_⟩
  · rw [h 2 (by decide)]; exact h7 q
  · rw [h 5 (by decide), h 6 (by decide), h 7 (by decide)]; exact h8 q
theorem M_sought (h : MRel g A I w n P d) (hk : ∀ j, j < 8 → I (A + 418 + 5) j = k j) (hK : CK k u c 0) : ∃ I', fX9_isSought (A + 418) x (mm g I J Z) = some (bI (decide ((comS w 0 k u c 0).1 = nI 0) && decide (juS w (kkR k (comS w 0 k u c 0).2) u c 0 = x)), mm g I' J Z) ∧ FvR (A + 418) I I' ∧ ∀ j, j < 8 → I' (A + 418 + 5) j = k j := by
  obtain ⟨I1, b1, b2, b3⟩ := M_comp (J := J) (Z := Z) (h.mb (v := 0) (by omega)) (CK_8 hk hK)
  rw [comS_8 hk] at b1 b3
  have h1 := h.fvm b2.fvr.1
  obtain ⟨I2, c1, c2, c3⟩ := M_keeps (I := I1) (J := J) (Z := Z) h.G
  have f2 : FvR (A + 418) I I2 := b2.fvr.trans (fvr_5 c2)
  have h2 := h.fvm f2.1
  have r2 : ∀ j, j < 16 → I2 (A + 418 + 5) j = kkR k (comS w 0 k u c 0).2 j := fun j hj => by
    rw [c3]
    unfold kkR
    by_cases z8 : j < 8
    · rw [if_neg (by omega), if_pos z8, b2.r5]; exact hk j z8
    · rw [if_pos (by omega), if_neg z8]; exact b3 _ (by omega)
  have r8 : ∀ j, j < 8 → I2 (A + 418 + 5) j = k j := fun j hj => (r2 j (by omega)).trans (kk_lo hj)
  unfold fX9_isSought fX9_isSought_13
  rw [M_cv h.G, b1, bd_some, err_if]
  by_cases ec : (comS w 0 k u c 0).1 = nI 0
  · have hW0 := h.W.1 0 (by omega)
    have hSK := com_SK hW0.2 hW0.1 ec
    have hCK := kk_CK (f := (comS w 0 k u c 0).2) hK
    obtain ⟨I3, t1, t2⟩ := M_judged (J := J) (Z := Z) (h2.mb (v := 0) (by omega)) (h2.mb (v := 1) (by omega)) (hCK.cg r2) (hSK.cg r2)
    rw [juS_cg r2] at t1
    refine ⟨I3, ?_, f2.trans t2.fvr, fun j hj => by rw [t2.r5]; exact r8 j hj⟩
    rw [decide_eq_true ec, if_tt, M_cv h.G, c1, bd_some, if_neg (by decide), M_cv h.G, t1, bd_some, Bool.true_and]
    by_cases ev : juS w (kkR k (comS w 0 k u c 0).2) u c 0 = x
    · rw [if_pos ev, decide_eq_true ev, rz_n1]
    · rw [if_neg ev, decide_eq_false ev, rz_n0]
  · refine ⟨I2, ?_, f2, r8⟩
    rw [decide_eq_false ec, if_ff, M_cv h.G, c1, bd_some, if_pos nI_0, Bool.false_and, rz_n0]
theorem tI_2 : ∀ a, a < 11 → nI (1 + a) - nI 2 = nI a - nI 1 := by decide +kernel
theorem dv11 : ∀ a, a < 121 → nI a / nI 11 = nI (a / 11) ∧ nI a - nI a / nI 11 * nI 11 = nI (a % 11) := by decide +kernel
section Lp
variable {k2 : Nat → Int32 → Int32 → Int32 → AH → Option (Int32 × AH)} {k11 : Nat → Int32 → Int32 → Int32 → Int32 → AH → Option (Int32 × AH)} {k21 : Nat → Int32 → Int32 → Int32 → Int32 → Int32 → AH → Option (Int32 × AH)} {k40 : Nat → Int32 → Int32 → Int32 → Int32 → Int32 → Int32 → AH → Option (Int32 × AH)}
theorem M_st (h : MRel g A I w n P d) (hC : Cd u c nm t) (hl : t < lmT u) : ∃ I1, (∀ y, y ≠ A + 418 + 5 → I1 y = I y) ∧ (∀ j, j < 8 → I1 (A + 418 + 5) j = sR pk u c nm t j) ∧ fX9_seeks_54 k2 k11 k21 k40 (A + 418) x pk (nI u) (nI c) (nI nm) (nI t) (nI t) (nI (lmT u)) (mm g I J Z) = cv 9 (A + 418) (fX9_isSought (A + 418) x) (mm g I1 J Z) fun x_3 h => if x_3 = 0 then k40 (A + 418) x pk (nI u) (nI c) (nI nm) (nI t + nI 1) h else rz (nI 1) (nI 1) h := by
  obtain ⟨h1, h2, h3, h4, h5, h6⟩ := hC
  have hlm : lmT u ≤ 133 := by unfold lmT; split <;> omega
  unfold fX9_seeks_54 fX9_seeks_92 fX9_seeks_113 fX9_seeks_132
  rw [if_neg (nI_ge hl (by omega))]
  rcases ty_c h4 with rfl | ⟨a, ha, rfl⟩ | ⟨a, b, ha, hb, rfl⟩
  · obtain ⟨I1, a1, a2, a3⟩ := M_makes (I := I) (J := J) (Z := Z) (u := u) (c := c) (nm := nI nm) (pk := pk) (mm0 := nI 0) (f := nI 0 - nI 2) (s := -2) h.G h1
    refine ⟨I1, a2, fun j hj => by rw [a3 j, if_pos hj]; rfl, ?_⟩
    rw [if_pos nI_0, if_neg (by decide), if_neg (by decide), M_cv h.G, a1, bd_some]
  · obtain ⟨e1, e2, e3⟩ := ty1 ha
    obtain ⟨I1, a1, a2, a3⟩ := M_makes (I := I) (J := J) (Z := Z) (u := u) (c := c) (nm := nI nm) (pk := pk) (mm0 := nI 1) (f := nI a - nI 1) (s := -2) h.G h1
    refine ⟨I1, a2, fun j hj => by rw [a3 j, if_pos hj, if_neg (by decide), if_pos (by decide)]; unfold sR; rw [e1, e2, e3], ?_⟩
    rw [if_neg (show ¬ nI (1 + a) = 0 from fun q => absurd (nI_inj (a := 1 + a) (b := 0) (by omega) (by omega) q) (by omega)), if_neg (nI_ge (by omega) (by omega)), if_neg (nI_ge (by omega) (by omega)), if_neg (nI_ge (by omega) (by omega)), tI_2 a ha, M_cv h.G, a1, bd_some]
  · obtain ⟨e1, e2, e3⟩ := ty2 (a := a) hb
    obtain ⟨I1, a1, a2, a3⟩ := M_makes (I := I) (J := J) (Z := Z) (u := u) (c := c) (nm := nI nm) (pk := pk) (mm0 := nI 2) (f := nI a - nI 1) (s := nI b - nI 1) h.G h1
    refine ⟨I1, a2, fun j hj => by rw [a3 j, if_pos hj, if_neg (by decide), if_neg (by decide)]; unfold sR; rw [e1, e2, e3], ?_⟩
    obtain ⟨d1, d2⟩ := dv11 (11 * a + b) (by omega)
    rw [if_neg (show ¬ nI (12 + 11 * a + b) = 0 from fun q => absurd (nI_inj (a := 12 + 11 * a + b) (b := 0) (by omega) (by omega) q) (by omega)), if_pos (nI_le (by omega) (by omega)), if_pos (nI_le (by omega) (by omega)), if_pos (nI_le (by omega) (by omega)), pk_sub (by omega), show 12 + 11 * a + b - 12 = 11 * a + b from by omega, d2, d1, show (11 * a + b) / 11 = a from by omega, show (11 * a + b) % 11 = b from by omega, M_cv h.G, a1, bd_some]
theorem no_G {z : Nat} (h : ∀ u1 c1 n1 t1, Cd u1 c1 n1 t1 → i ≤ sq u1 c1 n1 t1 → ¬ sq u1 c1 n1 t1 < z) : ∀ j, i ≤ j → j < z → sqG w pk x j = false := fun j h1 h2 => by
  cases hg : sqG w pk x j
  · rfl
  · obtain ⟨u1, c1, n1, t1, hc, rfl⟩ := sqG_cd hg
    exact absurd h2 (h u1 c1 n1 t1 hc h1)
theorem M_s40 (hu : u < 6) (hc : c < 10) (hn : nm < lmN u) (hk : ∀ I, MRel g A I w n P d → SkR g (A + 418) J Z w pk x (k21 (A + 418) x pk (nI u) (nI c) (nI (nm + 1)) (mm g I J Z)) I (sq u c (nm + 1) 0)) : ∀ (e t f : Nat) (I : Mem), t + e = lmT u → e < f → MRel g A I w n P d → SkR g (A + 418) J Z w pk x (lX9_seeks_40 k2 k11 k21 f (A + 418) x pk (nI u) (nI c) (nI nm) (nI t) (mm g I J Z)) I (sq u c nm t) := by
  have hlm : lmT u ≤ 133 ∧ (u ≠ 2 → lmT u = 1) ∧ (u = 2 → lmT u = 133) := by unfold lmT; split <;> omega
  have hln : lmN u ≤ 8 ∧ (2 < u → lmN u = 1) := by unfold lmN; split <;> omega
  have hd : ∀ t f I, lX9_seeks_40 k2 k11 k21 (f + 1) (A + 418) x pk (nI u) (nI c) (nI nm) (nI t) (mm g I J Z) = fX9_seeks_54 k2 k11 k21 (lX9_seeks_40 k2 k11 k21 f) (A + 418) x pk (nI u) (nI c) (nI nm) (nI t) (nI t) (nI (lmT u)) (mm g I J Z) := by
    intro t f I
    show bX9_seeks_40 k2 k11 k21 (lX9_seeks_40 k2 k11 k21 f) _ _ _ _ _ _ _ _ = _
    unfold bX9_seeks_40
    by_cases u2 : u = 2
    · rw [if_pos (by rw [u2]), hlm.2.2 u2]
    · rw [if_neg (fun q => u2 (nI_inj (by omega) (by omega) q)), hlm.2.1 u2]
  intro e
  induction e with
  | zero =>
    intro t f I hi hf h
    obtain ⟨f, rfl⟩ : ∃ z, f = z + 1 := ⟨f - 1, by omega⟩
    rw [hd]
    unfold fX9_seeks_54
    rw [if_pos (nI_le (by omega) (by omega)), nI_add]
    refine (hk I h).to (by unfold sq; omega) (by unfold sq; omega) (no_G fun u1 c1 n1 t1 hC h1 h2 => ?_)
    obtain ⟨g1, g2, g3, g4, g5, g6⟩ := hC
    unfold sq at h1 h2
    have z1 : u1 = u := by omega
    omega
  | succ e ih =>
    intro t f I hi hf h
    obtain ⟨f, rfl⟩ : ∃ z, f = z + 1 := ⟨f - 1, by omega⟩
    have hC : Cd u c nm t := ⟨hu, hc, by omega, by omega, by omega, by omega⟩
    obtain ⟨I1, a1, a2, a3⟩ := M_st (J := J) (Z := Z) (x := x) (pk := pk) (k2 := k2) (k11 := k11) (k21 := k21) (k40 := lX9_seeks_40 k2 k11 k21 f) h hC (by omega)
    have h1 := h.fvm (fvm_5 a1)
    obtain ⟨I2, b1, b2, b3⟩ := M_sought (J := J) (Z := Z) (x := x) h1 a2 (sR_CK hC)
    have f2 : FvR (A + 418) I I2 := (fvr_5 a1).trans b2
    have hlt : sq u c nm t < 63840 := by unfold sq; omega
    rw [hd, a3, M_cv h.G, b1, bd_some, bIf]
    cases hg : gdB w pk x u c nm t
    · rw [show (decide ((comS w 0 (sR pk u c nm t) u c 0).1 = nI 0) && decide (juS w (kkR (sR pk u c nm t) (comS w 0 (sR pk u c nm t) u c 0).2) u c 0 = x)) = false from hg, if_ff, nI_add]
      refine ((ih (t + 1) f I2 (by omega) (by omega) (h.fvm f2.1)).to (i := sq u c nm t) (by unfold sq; omega) (by unfold sq; omega) (fun j j1 j2 => ?_)).fr f2
      rw [show j = sq u c nm t from by unfold sq at j1 j2 ⊢; omega, sqG_at hC]
      exact hg
    · rw [show (decide ((comS w 0 (sR pk u c nm t) u c 0).1 = nI 0) && decide (juS w (kkR (sR pk u c nm t) (comS w 0 (sR pk u c nm t) u c 0).2) u c 0 = x)) = true from hg, if_tt, rz_n1]
      have hf1 : fst1 (sqG w pk x) (63840 - sq u c nm t) (sq u c nm t) = some (sq u c nm t) := by
        obtain ⟨z, hz⟩ : ∃ z, 63840 - sq u c nm t = z + 1 := ⟨63840 - sq u c nm t - 1, by omega⟩
        rw [hz]
        exact fst1_yes (by rw [sqG_at hC]; exact hg)
      refine ⟨I2, by rw [hf1]; rfl, f2, fun i0 h0 j hj => ?_⟩
      rw [hf1] at h0
      rw [← Option.some.inj h0, sRi_at hC]
      exact b3 j hj
theorem M_s21 (hu : u < 6) (hc : c < 10) (hk : ∀ I, MRel g A I w n P d → SkR g (A + 418) J Z w pk x (k11 (A + 418) x pk (nI u) (nI (c + 1)) (mm g I J Z)) I (sq u (c + 1) 0 0)) : ∀ (e nm f : Nat) (I : Mem), nm + e = lmN u → e < f → MRel g A I w n P d → SkR g (A + 418) J Z w pk x (lX9_seeks_21 k2 k11 f (A + 418) x pk (nI u) (nI c) (nI nm) (mm g I J Z)) I (sq u c nm 0) := by
  have hln : lmN u ≤ 8 ∧ (2 < u → lmN u = 1) ∧ (u ≤ 2 → lmN u = 8) := by unfold lmN; split <;> omega
  have hlm : lmT u ≤ 133 := by unfold lmT; split <;> omega
  have hd : ∀ nm f I, lX9_seeks_21 k2 k11 (f + 1) (A + 418) x pk (nI u) (nI c) (nI nm) (mm g I J Z) = fX9_seeks_34 k2 k11 (lX9_seeks_21 k2 k11 f) (A + 418) x pk (nI u) (nI c) (nI nm) (nI nm) (nI (lmN u)) (mm g I J Z) := by
    intro nm f I
    show bX9_seeks_21 k2 k11 (lX9_seeks_21 k2 k11 f) _ _ _ _ _ _ _ = _
    unfold bX9_seeks_21
    by_cases u2 : u ≤ 2
    · rw [if_neg (nI_ge (by omega) (by omega)), hln.2.2 u2]
    · rw [if_pos (nI_le (by omega) (by omega)), hln.2.1 (by omega)]
  intro e
  induction e with
  | zero =>
    intro nm f I hi hf h
    obtain ⟨f, rfl⟩ : ∃ z, f = z + 1 := ⟨f - 1, by omega⟩
    rw [hd]
    unfold fX9_seeks_34
    rw [if_pos (nI_le (by omega) (by omega)), nI_add]
    refine (hk I h).to (by unfold sq; omega) (by unfold sq; omega) (no_G fun u1 c1 n1 t1 hC h1 h2 => ?_)
    obtain ⟨g1, g2, g3, g4, g5, g6⟩ := hC
    unfold sq at h1 h2
    have z1 : u1 = u := by omega
    omega
  | succ e ih =>
    intro nm f I hi hf h
    obtain ⟨f, rfl⟩ : ∃ z, f = z + 1 := ⟨f - 1, by omega⟩
    rw [hd]
    unfold fX9_seeks_34
    rw [if_neg (nI_ge (by omega) (by omega))]
    exact M_s40 hu hc (by omega) (fun I1 h1 => ih (nm + 1) f I1 (by omega) (by omega) h1) (lmT u) 0 fuel I (by omega) (by unfold fuel; omega) h
theorem M_s11 (hu : u < 6) (hk : ∀ I, MRel g A I w n P d → SkR g (A + 418) J Z w pk x (k2 (A + 418) x pk (nI (u + 1)) (mm g I J Z)) I (sq (u + 1) 0 0 0)) : ∀ (e c f : Nat) (I : Mem), c + e = 10 → e < f → MRel g A I w n P d → SkR g (A + 418) J Z w pk x (lX9_seeks_11 k2 f (A + 418) x pk (nI u) (nI c) (mm g I J Z)) I (sq u c 0 0) := by
  have hln : lmN u ≤ 8 := by unfold lmN; split <;> omega
  intro e
  induction e with
  | zero =>
    intro c f I hi hf h
    obtain ⟨f, rfl⟩ : ∃ z, f = z + 1 := ⟨f - 1, by omega⟩
    show SkR _ _ _ _ _ _ _ (bX9_seeks_11 k2 (lX9_seeks_11 k2 f) _ _ _ _ _ _) _ _
    unfold bX9_seeks_11
    rw [if_pos (nI_le (by omega) (by omega)), nI_add, show sq u c 0 0 = sq (u + 1) 0 0 0 from by unfold sq; omega]
    exact hk I h
  | succ e ih =>
    intro c f I hi hf h
    obtain ⟨f, rfl⟩ : ∃ z, f = z + 1 := ⟨f - 1, by omega⟩
    show SkR _ _ _ _ _ _ _ (bX9_seeks_11 k2 (lX9_seeks_11 k2 f) _ _ _ _ _ _) _ _
    unfold bX9_seeks_11
    rw [if_neg (nI_ge (by omega) (by omega))]
    exact M_s21 hu (by omega) (fun I1 h1 => ih (c + 1) f I1 (by omega) (by omega) h1) (lmN u) 0 fuel I (by omega) (by unfold fuel; omega) h
end Lp
theorem M_s2 : ∀ (e u f : Nat) (I : Mem), u + e = 6 → e < f → MRel g A I w n P d → SkR g (A + 418) J Z w pk x (lX9_seeks_2 f (A + 418) x pk (nI u) (mm g I J Z)) I (sq u 0 0 0) := by
  intro e
  induction e with
  | zero =>
    intro u f I hi hf h
    obtain ⟨f, rfl⟩ : ∃ z, f = z + 1 := ⟨f - 1, by omega⟩
    show SkR _ _ _ _ _ _ _ (bX9_seeks_2 (lX9_seeks_2 f) _ _ _ _ _) _ _
    unfold bX9_seeks_2
    have hz : 63840 - sq u 0 0 0 = 0 := by unfold sq; omega
    rw [if_pos (nI_le (by omega) (by omega)), rz_n0]
    unfold SkR
    rw [hz]
    exact ⟨I, rfl, FvR.refl, fun i0 h0 => nomatch h0⟩
  | succ e ih =>
    intro u f I hi hf h
    obtain ⟨f, rfl⟩ : ∃ z, f = z + 1 := ⟨f - 1, by omega⟩
    show SkR _ _ _ _ _ _ _ (bX9_seeks_2 (lX9_seeks_2 f) _ _ _ _ _) _ _
    unfold bX9_seeks_2
    rw [if_neg (nI_ge (by omega) (by omega))]
    exact M_s11 (by omega) (fun I1 h1 => ih (u + 1) f I1 (by omega) (by omega) h1) 10 0 fuel I (by omega) (by unfold fuel; omega) h
theorem Q_sample (h : Rel g A I w n P d) : Agr g A I (fX8_sample A x y z) (fX9_sample (A + 418) x y z) [2] := by
  have e31 : ∀ I1 J Z, MRel g A I1 w n P d → fX9_sample_31 (A + 418) x y z (mm g I1 J Z) = some (nI 0, mm g (up2 I1 (A + 418) 3 (nI 1)) J Z) := by
    intro I1 J Z h1
    unfold fX9_sample_31 fX9_sample_32 fX9_sample_45
    rw [if_pos nI_0, M_cv h1.G, M_refS h1.G (i := 0) (by decide), bd_some, bIf, if_tt]
  have bad : (∀ J Z, fX8_sample A x y z (mm g I J Z) = some (.inl 2, mm g I J none)) → (∀ I1 J Z, MRel g A I1 w n P d → fX9_sample (A + 418) x y z (mm g I1 J Z) = fX9_sample_31 (A + 418) x y z (mm g I1 J Z)) → Agr g A I (fX8_sample A x y z) (fX9_sample (A + 418) x y z) [2] := by
    intro b1 b2
    exact Agr.rfs h (i := 0) (e := 2) ⟨by decide, rfl⟩ (fun J Z => ⟨I, none, b1 J Z, FvC.refl⟩) (fun I1 J Z h1 => ⟨nI 0, up2 I1 (A + 418) 3 (nI 1), by rw [b2 I1 J Z h1]; exact e31 I1 J Z h1, fvm_3, up3⟩)
  by_cases x1 : x < nI 1
  · refine bad (fun J Z => ?_) (fun I1 J Z h1 => ?_)
    · unfold fX8_sample
      rw [if_pos x1, thr_m]
    · unfold fX9_sample
      rw [M_within, decide_eq_false (fun q => (Int32.not_lt.mpr q.1) x1), bd_some, bIf, if_ff]
  · by_cases x5 : nI 5 < x
    · refine bad (fun J Z => ?_) (fun I1 J Z h1 => ?_)
      · unfold fX8_sample
        rw [if_neg x1, if_pos x5, thr_m]
      · unfold fX9_sample
        rw [M_within, decide_eq_false (fun q => (Int32.not_lt.mpr q.2) x5), bd_some, bIf, if_ff]
    · have hx : ∀ hh : AH, fX9_within x (nI 1) (nI 5) hh = some (bI true, hh) := fun hh => by rw [M_within, decide_eq_true ⟨Int32.not_lt.mp x1, Int32.not_lt.mp x5⟩]
      rcases pk_cases y with ⟨pq, hpq, rfl⟩ | ⟨p1, p2⟩
      · rcases int_x z 6 (by omega) with hz | ⟨k, hk, rfl⟩
        · refine bad (fun J Z => ?_) (fun I1 J Z h1 => ?_)
          · unfold fX8_sample
            rw [if_neg x1, if_neg x5, C_isPk hpq, bd_some, bIf, if_tt]
            by_cases h0 : z < 0
            · rw [if_pos h0, thr_m]
            · rw [if_neg h0, if_neg (fun q => absurd (Int32.le_trans (hz.resolve_left h0) q) (by decide)), thr_m]
          · unfold fX9_sample
            rw [hx, bd_some, bIf, if_tt, wi_yes (by omega) (by omega), bd_some, bIf, if_tt, wi_no hz (by omega), bd_some, bIf, if_ff]
        · refine Agr.val h (b := smV (nI pq) k (fst1 (sqG w (nI pq) x) 63840 0)) (fun J Z => ?_) (fun I1 J Z h1 => ?_)
          · obtain ⟨I1, a1, a2, a3, a4⟩ := C_put (I := I) (J := J) (Z := Z) (u := 0) (c := 0) (nm := nI 0) (pk := nI pq) h.jg.pb.1 (by omega)
            have f1 : FvC A I I1 := fun y y1 y2 y3 => a2 y (by omega) (by omega)
            obtain ⟨I2, t1, t2⟩ := C_smpL (J := J) (Z := Z) (x := x) (pk := nI pq) hk 63840 0 0 0 0 0 fuel I1 ⟨by omega, by omega, by omega, by omega, by omega, by omega⟩ rfl (by omega) (by unfold fuel; omega) (h.fvc f1) a3
            refine ⟨I2, Z, ?_, f1.trans t2⟩
            unfold fX8_sample
            rw [if_neg x1, if_neg x5, C_isPk hpq, bd_some, bIf, if_tt, if_neg (nI_pos (by omega)), if_pos (nI_le (by omega) (by omega)), h.jg.p5, Option.bind_some, cln_cv h.jg.pb.1, a1, bd_some]
            exact t1
          · have h2 := h1.up3 (x := nI 0)
            obtain ⟨I2, t1, t2, t3⟩ := M_s2 (J := J) (Z := Z) (x := x) (pk := nI pq) 6 0 fuel _ (by omega) (by unfold fuel; omega) h2
            refine ⟨I2, ?_, fvm_3.trans t2.1, t2.2.trans up3⟩
            unfold fX9_sample fX9_sample_32 fX9_sample_45
            rw [hx, bd_some, bIf, if_tt, wi_yes (by omega) (by omega), bd_some, bIf, if_tt, wi_yes (by omega) (by omega), bd_some, bIf, if_tt, if_neg (by decide), M_cv h1.G, M_ref0 h1.G, bd_some, bIf, if_ff, M_cv h1.G, show fX9_seeks (A + 418) x (nI pq) (mm g (up2 I1 (A + 418) 3 (nI 0)) J Z) = _ from t1, bd_some, bIf]
            have t3' : ∀ i0, fst1 (sqG w (nI pq) x) 63840 0 = some i0 → ∀ j, j < 8 → I2 (A + 418 + 5) j = sRi (nI pq) i0 j := t3
            show (if (fst1 (sqG w (nI pq) x) 63840 0).isSome = true then _ else _) = _
            generalize hw : fst1 (sqG w (nI pq) x) 63840 0 = o at t3' ⊢
            cases o with
            | none => rw [if_neg (by decide)]; rfl
            | some i0 =>
              rw [if_pos (show (some i0).isSome = true from rfl)]
              show _ = some (sRi (nI pq) i0 (if k < 3 then k else k + 2), _)
              by_cases k3 : k < 3
              · rw [if_neg (nI_ge k3 (by omega)), h1.G.p15, Option.bind_some, h1.G.cl (by omega), Option.bind_some, if_pos k3, t3' i0 rfl k (by omega)]
              · rw [if_pos (nI_le (by omega) (by omega)), h1.G.p15, Option.bind_some, nI_add, pk_sub (by omega), show 5 + k - 3 = k + 2 from by omega, h1.G.cl (by omega), Option.bind_some, if_neg k3, t3' i0 rfl (k + 2) (by omega)]
      · refine bad (fun J Z => ?_) (fun I1 J Z h1 => ?_)
        · unfold fX8_sample
          rw [if_neg x1, if_neg x5, p1, bd_some, bIf, if_ff, thr_m]
        · unfold fX9_sample
          rw [hx, bd_some, bIf, if_tt, p2, bd_some, bIf, if_ff]
end Sm
