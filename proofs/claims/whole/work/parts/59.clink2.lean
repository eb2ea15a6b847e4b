/-! ===== the class: errorOf of a linker, the whole ===== -/
section Cm
variable {g : Gr} {l a p : Nat} {I I' : Mem} {J : Nat → Nat → Int64} {Z : Option Nat} {w : Nat → Int32} {v m : Nat} {k : Nat → Int32} {u c b : Nat}
theorem C_lext (hQ : CL g l a p) (h : CB g I a w v) (hc : exC w v c = true) : fX3_extendingError l (nI c) (mm g I J Z) = some (exE w v c (nI 5) (nI 6), mm g I J Z) := by
  have k2 := exC_lt hc
  unfold fX3_extendingError exE
  rw [hQ.g0, Option.bind_some, CB_cv h, C_isI h.L h.R k2, bd_some, hc, Bool.true_and, bIf]
  cases hi : itB w v c
  · rw [if_ff, hQ.g0, Option.bind_some, CB_cv h, C_isFinal h.L h.R k2, bd_some, hc, Bool.true_and, bIf]
    by_cases h6 : cl w v c 6 = nI 1
    · rw [decide_eq_true h6, if_tt, if_pos (Or.inr h6)]
    · rw [decide_eq_false h6, if_ff, if_neg (fun z => by rcases z with z | z; cases z; exact h6 z), hQ.g0, Option.bind_some, Option.bind_some, lib_p9 h.L, Option.bind_some, lib_l5 h.L k2, Option.bind_some, Option.bind_some, lib_p8 h.L, Option.bind_some, lib_l4 h.L k2, Option.bind_some, CB_cv h, C_inc h hc, bd_some, bIf]
      cases incS w v (stB w v c) (lnB w v c) (upS w v c)
      · rw [if_ff, if_ff]
      · rw [if_tt, if_tt]
  · rw [if_tt, if_pos (Or.inl rfl)]
theorem C_limp (hQ : CL g l a p) (h : CB g I a w v) (hk : RK I p k) (hc : exC w v c = true) (hb : b < 10) (k5 : k 1 = nI c) (k6 : k 4 = nI b) : fX3_implementingError l p (mm g I J Z) = some (if itB w v c = false then nI 5 else lbE w v k c b, mm g I J Z) := by
  have k2 := exC_lt hc
  unfold fX3_implementingError
  rw [hQ.g0, Option.bind_some, hQ.gp, Option.bind_some, hk.1 1 (by decide), k5, CB_cv h, C_isI h.L h.R k2, bd_some, hc, Bool.true_and, bIf]
  cases hi : itB w v c
  · rw [if_ff, if_pos rfl]
  · unfold lbE
    rw [if_tt, if_neg (by decide), hQ.g0, Option.bind_some, hQ.gp, Option.bind_some, hk.1 4 (by decide), k6, CB_cv h, C_isThere h.L h.R hb, bd_some, bIf]
    cases he : exC w v b
    · rw [if_ff, if_pos rfl]
    · rw [if_tt, if_neg (by decide), hQ.g0, Option.bind_some, hQ.gp, Option.bind_some, hQ.gp, Option.bind_some, hk.1 4 (by decide), hk.1 3 (by decide), k6, CB_cv h, C_open h.L h.R he, bd_some, bIf]
      show (if opcB w v b (k 3) = true then _ else _) = _
      cases ho : opcB w v b (k 3)
      · rw [if_ff, if_pos rfl]
      · rw [if_tt, if_neg (by decide), hQ.g0, Option.bind_some, hQ.gp, Option.bind_some, hk.1 4 (by decide), k6, CB_cv h, C_isI h.L h.R hb, bd_some, he, Bool.true_and, bIf]
        cases hib : itB w v b
        · rw [if_ff, hQ.g0, Option.bind_some, hQ.gp, Option.bind_some, hk.1 4 (by decide), k6, CB_cv h, C_isFinal h.L h.R hb, bd_some, he, Bool.true_and, bIf]
          by_cases h6 : cl w v b 6 = nI 1
          · rw [decide_eq_true h6, if_tt, if_pos (Or.inr h6)]
          · rw [decide_eq_false h6, if_ff, if_neg (fun z => by rcases z with z | z; cases z; exact h6 z), hQ.g0, Option.bind_some, lib_p8 h.L, Option.bind_some, hQ.gp, Option.bind_some, hk.1 4 (by decide), k6, lib_l4 h.L hb, Option.bind_some, Option.bind_some, lib_p8 h.L, Option.bind_some, hQ.gp, Option.bind_some, hk.1 1 (by decide), k5, lib_l4 h.L k2, Option.bind_some, Option.bind_some, Option.bind_some, lib_p9 h.L, Option.bind_some, Option.bind_some, lib_l5 h.L hb, Option.bind_some, CB_cv h, C_incB h hc he hib, bd_some, bIf]
            unfold icB
            cases incS w v (fun i => stB w v c i || stB w v b i) (lnB w v b) (fun i => (stB w v c i || stB w v b i) && itB w v i)
            · rw [if_ff, if_ff]
            · rw [if_tt, if_tt]
        · rw [if_tt, if_pos (Or.inl rfl)]
theorem C_link (hQ : CL g l a p) (h : CB g I a w v) (hk : RK I p k) (hK : CK k u c b) (hS : SK k u) : ∃ I', fX3_errorOf l p (mm g I J Z) = some ((lkS w v k u c b).1, mm g I' J Z) ∧ Fn l a I I' ∧ I' l 1 = (lkS w v k u c b).2 := by
  have hf1 : Fn l a I (up2 I l 1 (-2)) := fn_up
  have h1 := h.fn hQ hf1
  have hk1 := hk.fn hQ hf1
  have h181 : up2 I l 1 (-2) l 1 = -2 := by rw [up2_at, if_pos rfl]
  unfold fX3_errorOf
  rw [hQ.pi, Option.bind_some]
  generalize up2 I l 1 (-2) = I1 at hf1 h1 hk1 h181 ⊢
  have hK' := hK
  obtain ⟨k1, k2, k3, k4, k5, k6, k7, k8⟩ := hK
  unfold lkS
  rw [hQ.g8, Option.bind_some, hQ.gs, Option.bind_some, show I1 (p + 1) 0 = k 8 from hk1.2.1]
  rcases hS.1 with h8 | h8
  · rw [h8, if_pos nI_0, if_neg (show ¬ (nI 0 = nI 1) by decide), hQ.g0, Option.bind_some, hQ.gp, Option.bind_some, hk1.1 1 (by decide), k5, CB_cv h1, C_isThere h1.L h1.R k2, bd_some, bIf]
    cases hc : exC w v c
    · rw [if_ff, if_pos rfl]
      exact ⟨I1, rfl, hf1, h181⟩
    · rw [if_tt, if_neg (show ¬ (true = false) by decide), hQ.g0, Option.bind_some, hQ.gp, Option.bind_some, hQ.gp, Option.bind_some, hk1.1 1 (by decide), hk1.1 3 (by decide), k5, CB_cv h1, C_open h1.L h1.R hc, bd_some, bIf]
      show ∃ I', (if opcB w v c (k 3) = true then _ else _) = _ ∧ _
      cases ho : opcB w v c (k 3)
      · rw [if_ff, if_pos rfl]
        exact ⟨I1, rfl, hf1, h181⟩
      · rw [if_tt, if_neg (show ¬ (true = false) by decide), hQ.gp, Option.bind_some, hk1.1 0 (by decide), k4]
        by_cases u0 : u ≤ 1
        · rw [if_pos u0]
          obtain ⟨I2, t1, t2, t3⟩ := C_lnkF (J := J) (Z := Z) hQ h1 hk1 hK' hS u0 hc h181
          refine ⟨I2, ?_, hf1.trans t2, t3⟩
          rcases (by omega : u = 0 ∨ u = 1) with e | e
          · rw [if_pos (by rw [e]), hQ.cv, t1, bd_some]
          · rw [if_neg (by rw [e]; decide), if_pos (by rw [e]), hQ.cv, t1, bd_some]
        · rw [if_neg u0, if_neg (fun z => by have := nI_inj (by omega) (by omega) z; omega), if_neg (fun z => by have := nI_inj (by omega) (by omega) z; omega)]
          by_cases u2 : u = 2
          · subst u2
            obtain ⟨I2, t1, t2, t3⟩ := C_lnkC (J := J) (Z := Z) hQ h1 hk1 hK' hS hc h181
            refine ⟨I2, ?_, hf1.trans t2, t3⟩
            rw [if_pos rfl, hQ.cv, t1, bd_some]
            rfl
          · rw [if_neg u2, if_neg (fun z => u2 (nI_inj (by omega) (by omega) z))]
            by_cases u3 : u = 3
            · rw [if_pos u3, if_pos (by rw [u3]), hQ.g0, Option.bind_some, hQ.gp, Option.bind_some, hk1.1 1 (by decide), k5, CB_cv h1, C_isAbs h1.L h1.R k2, bd_some, hc, Bool.true_and, bIf]
              refine ⟨I1, ?_, hf1, h181⟩
              by_cases h7 : cl w v c 7 = nI 1
              · rw [if_pos h7, decide_eq_true h7, if_tt]
              · rw [if_neg h7, decide_eq_false h7, if_ff]
            · rw [if_neg u3, if_neg (fun z => u3 (nI_inj (by omega) (by omega) z))]
              by_cases u4 : u = 4
              · rw [if_pos u4, if_pos (by rw [u4]), hQ.gp, Option.bind_some, hk1.1 1 (by decide), k5, hQ.cv, C_lext hQ h1 hc, bd_some]
                exact ⟨I1, rfl, hf1, h181⟩
              · rw [if_neg u4, if_neg (fun z => u4 (nI_inj (by omega) (by omega) z)), hQ.cv, C_limp hQ h1 hk1 hc k3 k5 k6, bd_some]
                exact ⟨I1, rfl, hf1, h181⟩
  · rw [h8, if_neg (show ¬ (nI 1 = 0) by decide), if_pos rfl]
    exact ⟨I1, rfl, hf1, h181⟩
end Cm
