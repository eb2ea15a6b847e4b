/-! ===== the reference: compiled ===== -/
section Cp
variable {g : Gr} {R : Nat} {I I' : Mem} {J : Nat → Nat → Int64} {Z : Option Nat} {w : Nat → Int32} {v m c b u : Nat}
theorem caS_fst {A : Nat → Bool} : (fst (beB w v A) 0 (nmb w v)).isSome = (caS w v A).isSome := by
  unfold caS
  by_cases e : ct (fun m => beB w v A m && !abB w v m) (nmb w v) = 1
  · rw [if_pos e]
    obtain ⟨m, m1, m2, m3⟩ := ct_one.mp e
    rw [ls_one (P := fun m => beB w v A m && !abB w v m) m1 m2 m3]
    rw [Bool.and_eq_true] at m2
    cases hf : fst (beB w v A) 0 (nmb w v) with
    | none => rw [fst_none hf m (by omega) (by omega)] at m2; exact absurd m2.1 (by decide)
    | some j => rfl
  · rw [if_neg e]
theorem M_c283 (h : Mb g R I w v) (hm : m < nmb w v) (hc : c < 10) (hr : ∀ j, j < 8 → I (R + 6) j = nr j) : ∃ I', fX9_compiledCall_283 R (nI v) (nI c) (nI m) (mm g I J Z) = some (nI 0, mm g I' J Z) ∧ Fm R I I' ∧ ∀ j, j < 8 → I' (R + 6) j = caM w v c m j := by
  have f1 : Fm R I (up2 I (R + 6) 2 (mb w v m 5)) := fm_up6
  have f2 := f1.trans (fm_up6 (j := 3) (x := bI (bt (mb w v m 4) 0)))
  have f3 := f2.trans (fm_up6 (j := 4) (x := mb w v m 6))
  have f4 := f3.trans (fm_up6 (j := 5) (x := mb w v m 7))
  have f5 := f4.trans (fm_up6 (j := 6) (x := mb w v m 8))
  have f6 := f5.trans (fm_up6 (j := 7) (x := cl w v c 1))
  have h1 := h.fm f1
  have h2 := h.fm f2
  have h3 := h.fm f3
  have h4 := h.fm f4
  have h5 := h.fm f5
  refine ⟨_, ?_, f6, fun j hj => ?_⟩
  · have h319 : fX9_compiledCall_319 R (nI v) (nI c) (nI m) (R + 6) (nI 3) (bI (bt (mb w v m 4) 0)) (mm g (up2 I (R + 6) 2 (mb w v m 5)) J Z) = some (nI 0, mm g (up2 (up2 (up2 (up2 (up2 (up2 I (R + 6) 2 (mb w v m 5)) (R + 6) 3 (bI (bt (mb w v m 4) 0))) (R + 6) 4 (mb w v m 6)) (R + 6) 5 (mb w v m 7)) (R + 6) 6 (mb w v m 8)) (R + 6) 7 (cl w v c 1)) J Z) := by
      unfold fX9_compiledCall_319
      rw [h.G.st6 (by decide), Option.bind_some, h.G.p16, Option.bind_some, h2.cv, h2.its hm (by decide), bd_some, h.G.st6 (by decide), Option.bind_some, h.G.p16, Option.bind_some, h3.cv, h3.its hm (by decide), bd_some, h.G.st6 (by decide), Option.bind_some, h.G.p16, Option.bind_some, h4.cv, h4.its hm (by decide), bd_some, h.G.st6 (by decide), Option.bind_some, h.G.p16, Option.bind_some, h5.cv, h5.of hc (by decide), bd_some, h.G.st6 (by decide), Option.bind_some]
    unfold fX9_compiledCall_283
    rw [h.G.p16, Option.bind_some, h.cv, h.its hm (by decide), bd_some, h.G.st6 (by decide), Option.bind_some, h.G.p16, Option.bind_some, h1.cv, h1.sta hm, bd_some, bIf, ← h319]
    cases bt (mb w v m 4) 0
    · rw [if_ff]; rfl
    · rw [if_tt]; rfl
  · rw [up2_at, up2_at, up2_at, up2_at, up2_at, up2_at]
    unfold caM
    have := hr j hj
    unfold nr at this
    rcases (by omega : j = 0 ∨ j = 1 ∨ j = 2 ∨ j = 3 ∨ j = 4 ∨ j = 5 ∨ j = 6 ∨ j = 7) with e | e | e | e | e | e | e | e <;> subst e <;> simp_all
theorem M_compC (h : Mb g R I w v) (hK : CK (I (R + 5)) 2 c b) (hc : exC w v c = true) (hr : ∀ j, j < 8 → I (R + 6) j = nr j) : ∃ I', fX9_compiledCall R (nI v) (nI c) (mm g I J Z) = some ((caE w v (I (R + 5)) c b).1, mm g I' J Z) ∧ Fm R I I' ∧ ∀ j, j < 8 → I' (R + 6) j = (caE w v (I (R + 5)) c b).2 j := by
  have hn := h.M.n40
  unfold fX9_compiledCall
  rw [h.cv, h.sup (exC_lt hc), bd_some]
  obtain ⟨I1, e1, e2⟩ := M_c13 (J := J) (Z := Z) hK hc (nmb w v) 0 fuel I h rfl (by omega) (by unfold fuel; omega) (fun j hj => absurd hj (by omega))
  have hf1 := e2.fm
  have h1 := h.fm hf1
  have hr1 : ∀ j, j < 8 → I1 (R + 6) j = nr j := fun j hj => by rw [e2 _ (by omega)]; exact hr j hj
  rw [show lX9_compiledCall_13 fuel R (nI v) (nI c) (spm w v c) (nI 0) (nI 0) (mm g I J Z) = _ from e1]
  unfold caE
  by_cases e : ct (apB w v (I (R + 5)) c b) (nmb w v) = 0
  · rw [if_pos e, if_pos e]
    exact ⟨I1, rfl, hf1, hr1⟩
  · rw [if_neg e, if_neg e, caS_fst]
    cases hs : caS w v (apB w v (I (R + 5)) c b) with
    | none => exact ⟨I1, rfl, hf1, hr1⟩
    | some m =>
      obtain ⟨I2, t1, t2, t3⟩ := M_c283 (J := J) (Z := Z) h1 (caS_A hs).1 (exC_lt hc) hr1
      exact ⟨I2, t1, hf1.trans t2, t3⟩
theorem M_isBase (h : Mb g R I w v) (hb : b < 10) : fX9_isBase R (nI v) (nI b) (mm g I J Z) = some (bI (baB w v b (I (R + 5) 3)), mm g I J Z) := by
  unfold fX9_isBase baB
  rw [h.cv, h.isC hb, bd_some, bIf]
  cases he : exC w v b
  · rw [if_ff, rz_n0]; rfl
  · rw [if_tt, h.cv, h.itf hb, bd_some, bIf]
    cases itB w v b
    · rw [if_ff, h.cv, h.of hb (by decide), bd_some]
      rcases (h.C.f67 he).1 with e | e
      · rw [e, if_pos nI_0, h.cv, h.opc hb, bd_some, bIf]
        unfold opcB
        cases (decide (cl w v b 5 = nI 1) || decide (cl w v b 4 = I (R + 5) 3))
        · rw [if_ff, rz_n0]; rfl
        · rw [if_tt, rz_n1]; rfl
      · rw [e, if_neg (by decide), rz_n0]; rfl
    · rw [if_tt, rz_n0]; rfl
theorem M_comp (h : Mb g R I w v) (hK : CK (I (R + 5)) u c b) : ∃ I', fX9_compiled R (nI v) (mm g I J Z) = some ((comS w v (I (R + 5)) u c b).1, mm g I' J Z) ∧ Fm R I I' ∧ ∀ j, j < 8 → I' (R + 6) j = (comS w v (I (R + 5)) u c b).2 j := by
  obtain ⟨I1, e1, e2, e3⟩ := M_noRef (J := J) (Z := Z) h.G 8 0 fuel I (by omega) (by unfold fuel; omega) (fun j hj => absurd hj (by omega))
  have hf1 : Fm R I I1 := ⟨fun x _ _ q _ => e2 x q, fun k _ => by rw [e2 R (by omega)]⟩
  have h1 := h.fm hf1
  have hk1 : I1 (R + 5) = I (R + 5) := hf1.r5
  have hK1 : CK (I1 (R + 5)) u c b := by rw [hk1]; exact hK
  have hK' := hK
  obtain ⟨k1, k2, k3, k4, k5, k6, k7, k8⟩ := hK
  unfold fX9_compiled comS
  rw [h.cv, show fX9_noReference R (mm g I J Z) = _ from e1, bd_some, h.G.p15, Option.bind_some, h.G.cl (by decide), Option.bind_some, hk1, k5, h1.cv, h1.isC k2, bd_some, bIf]
  cases hc : exC w v c
  · rw [if_ff, if_pos rfl]
    exact ⟨I1, rfl, hf1, e3⟩
  · rw [if_tt, if_neg (by decide), h1.cv, h1.opc k2, bd_some, bIf, hk1]
    show ∃ I', (if opcB w v c (I (R + 5) 3) = true then _ else _) = _ ∧ _
    cases ho : opcB w v c (I (R + 5) 3)
    · rw [if_ff, if_pos rfl]
      exact ⟨I1, rfl, hf1, e3⟩
    · rw [if_tt, if_neg (by decide), h.G.p15, Option.bind_some, h.G.cl (by decide), Option.bind_some, hk1, k4]
      by_cases u0 : u ≤ 1
      · rw [if_pos u0]
        obtain ⟨I2, t1, t2, t3⟩ := M_compF (J := J) (Z := Z) h1 hK1 u0 hc e3
        rw [hk1] at t1 t3
        refine ⟨I2, ?_, hf1.trans t2, t3⟩
        rcases (by omega : u = 0 ∨ u = 1) with e | e
        · rw [if_pos (by rw [e]), h1.cv, t1, bd_some]
        · rw [if_neg (by rw [e]; decide), if_pos (by rw [e]), h1.cv, t1, bd_some]
      · rw [if_neg u0, if_neg (fun q => by have := nI_inj (by omega) (by omega) q; omega), if_neg (fun q => by have := nI_inj (by omega) (by omega) q; omega)]
        by_cases u2 : u = 2
        · subst u2
          obtain ⟨I2, t1, t2, t3⟩ := M_compC (J := J) (Z := Z) h1 hK1 hc e3
          rw [hk1] at t1 t3
          refine ⟨I2, ?_, hf1.trans t2, t3⟩
          rw [if_pos rfl, h1.cv, t1, bd_some]
          rfl
        · rw [if_neg u2, if_neg (fun q => u2 (nI_inj (by omega) (by omega) q))]
          by_cases u3 : u = 3
          · rw [if_pos u3, if_pos (by rw [u3]), h1.cv, h1.of k2 (by decide), bd_some]
            refine ⟨I1, ?_, hf1, e3⟩
            by_cases h7 : cl w v c 7 = nI 1
            · rw [if_pos h7, if_pos h7]
            · rw [if_neg h7, if_neg h7]
          · rw [if_neg u3, if_neg (fun q => u3 (nI_inj (by omega) (by omega) q))]
            by_cases u4 : u = 4
            · rw [if_pos u4, if_pos (by rw [u4]), h1.cv, h1.itf k2, bd_some, bIf]
              unfold exE
              cases hi : itB w v c
              · rw [if_ff, h1.cv, h1.of k2 (by decide), bd_some]
                by_cases h6 : cl w v c 6 = nI 1
                · rw [if_pos h6, if_pos (Or.inr h6)]
                  exact ⟨I1, rfl, hf1, e3⟩
                · rw [if_neg h6, if_neg (fun q => by rcases q with q | q; cases q; exact h6 q)]
                  obtain ⟨I2, t1, t2⟩ := M_inc (J := J) (Z := Z) h1 hc
                  refine ⟨I2, ?_, hf1.trans t2.fm, fun j hj => by rw [t2.1 _ (by omega)]; exact e3 j hj⟩
                  rw [h1.cv, t1, bd_some, bIf]
                  cases incS w v (stB w v c) (lnB w v c) (upS w v c)
                  · rw [if_ff, if_ff]
                  · rw [if_tt, if_tt]
              · rw [if_tt, if_pos (Or.inl rfl)]
                exact ⟨I1, rfl, hf1, e3⟩
            · rw [if_neg u4, if_neg (fun q => u4 (nI_inj (by omega) (by omega) q)), h1.cv, h1.itf k2, bd_some, bIf]
              cases hi : itB w v c
              · rw [if_ff, if_pos rfl]
                exact ⟨I1, rfl, hf1, e3⟩
              · rw [if_tt, if_neg (by decide), h.G.p15, Option.bind_some, h.G.cl (by decide), Option.bind_some, hk1, k6, h1.cv, M_isBase h1 k3, bd_some, bIf, hk1]
                cases hb : baB w v b (I (R + 5) 3)
                · rw [if_ff, if_pos rfl]
                  exact ⟨I1, rfl, hf1, e3⟩
                · have hb' := hb
                  unfold baB at hb'
                  simp only [Bool.and_eq_true, Bool.not_eq_true'] at hb'
                  obtain ⟨I2, t1, t2⟩ := M_incB (J := J) (Z := Z) h1 hc hb'.1.1.1 hb'.1.1.2
                  refine ⟨I2, ?_, hf1.trans t2.fm, fun j hj => by rw [t2.1 _ (by omega)]; exact e3 j hj⟩
                  rw [if_tt, if_neg (by decide), h.G.p15, Option.bind_some, h.G.cl (by decide), Option.bind_some, hk1, k6, h1.cv, t1, bd_some, bIf]
                  unfold icB
                  cases incS w v (fun i => stB w v c i || stB w v b i) (lnB w v b) (fun i => (stB w v c i || stB w v b i) && itB w v i)
                  · rw [if_ff, if_ff]
                  · rw [if_tt, if_tt]
end Cp
