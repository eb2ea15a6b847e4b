/-! ===== the reference: linked ===== -/
section Lj
variable {g : Gr} {R : Nat} {I I' : Mem} {J : Nat → Nat → Int64} {Z : Option Nat} {w : Nat → Int32} {v m c b u : Nat} {k : Nat → Int32}
theorem M_lbase (h : Mb g R I w v) (hc : exC w v c = true) (hb : b < 10) (h18 : I R 18 = -2) : ∃ I', fX9_linkedBase R (nI v) (nI c) (nI b) (mm g I J Z) = some (lbE w v (I (R + 5)) c b, mm g I' J Z) ∧ Fl R I I' ∧ I' R 18 = -2 := by
  have rf : Fl R I I := ⟨fun _ _ _ => rfl, fun _ _ _ => rfl⟩
  unfold fX9_linkedBase lbE
  rw [h.cv, h.isC hb, bd_some, bIf]
  cases he : exC w v b
  · rw [if_ff, if_pos rfl]
    exact ⟨I, rfl, rf, h18⟩
  · rw [if_tt, if_neg (by decide), h.cv, h.opc hb, bd_some, bIf]
    show ∃ I', (if opcB w v b (I (R + 5) 3) = true then _ else _) = _ ∧ _
    cases ho : opcB w v b (I (R + 5) 3)
    · rw [if_ff, if_pos rfl]
      exact ⟨I, rfl, rf, h18⟩
    · rw [if_tt, if_neg (by decide), h.cv, h.itf hb, bd_some, bIf]
      cases hi : itB w v b
      · rw [if_ff, h.cv, h.of hb (by decide), bd_some]
        by_cases h6 : cl w v b 6 = nI 1
        · rw [if_pos h6, if_pos (Or.inr h6)]
          exact ⟨I, rfl, rf, h18⟩
        · rw [if_neg h6, if_neg (fun z => by rcases z with z | z; cases z; exact h6 z)]
          obtain ⟨I2, t1, t2⟩ := M_incB (J := J) (Z := Z) h hc he hi
          refine ⟨I2, ?_, t2.fl, by rw [t2.2 18 (by omega)]; exact h18⟩
          rw [h.cv, t1, bd_some, bIf]
          unfold icB
          cases incS w v (fun i => stB w v c i || stB w v b i) (lnB w v b) (fun i => (stB w v c i || stB w v b i) && itB w v i)
          · rw [if_ff, if_ff]
          · rw [if_tt, if_tt]
      · rw [if_tt, if_pos (Or.inl rfl)]
        exact ⟨I, rfl, rf, h18⟩
theorem M_link (h : Mb g R I w v) (hK : CK (I (R + 5)) u c b) (hS : SK (I (R + 5)) u) : ∃ I', fX9_linked R (nI v) (mm g I J Z) = some ((lkS w v (I (R + 5)) u c b).1, mm g I' J Z) ∧ Fl R I I' ∧ I' R 18 = (lkS w v (I (R + 5)) u c b).2 := by
  have hf1 : Fl R I (up2 I R 18 (-2)) := fl_18
  have h1 := h.fl hf1
  have hk1 : up2 I R 18 (-2) (R + 5) = I (R + 5) := hf1.r5
  have h181 : up2 I R 18 (-2) R 18 = -2 := by rw [up2_at, if_pos rfl]
  unfold fX9_linked
  rw [pI_m h.G.1, Option.bind_some]
  generalize up2 I R 18 (-2) = I1 at hf1 h1 hk1 h181 ⊢
  have hK1 : CK (I1 (R + 5)) u c b := by rw [hk1]; exact hK
  have hS1 : SK (I1 (R + 5)) u := by rw [hk1]; exact hS
  obtain ⟨k1, k2, k3, k4, k5, k6, k7, k8⟩ := hK
  unfold lkS
  rw [h.G.p15, Option.bind_some, h.G.cl (by decide), Option.bind_some, hk1]
  by_cases h8 : I (R + 5) 8 = nI 1
  · rw [if_pos h8, if_pos h8]
    exact ⟨I1, rfl, hf1, h181⟩
  · rw [if_neg h8, if_neg h8, Option.bind_some, h.G.cl (by decide), Option.bind_some, hk1, k5, h1.cv, h1.isC k2, bd_some, bIf]
    cases hc : exC w v c
    · rw [if_ff, if_pos rfl]
      exact ⟨I1, rfl, hf1, h181⟩
    · rw [if_tt, if_neg (by decide), h1.cv, h1.opc k2, bd_some, bIf, hk1]
      show ∃ I', (if opcB w v c (I (R + 5) 3) = true then _ else _) = _ ∧ _
      cases ho : opcB w v c (I (R + 5) 3)
      · rw [if_ff, if_pos rfl]
        exact ⟨I1, rfl, hf1, h181⟩
      · rw [if_tt, if_neg (by decide), h.G.p15, Option.bind_some, h.G.cl (by decide), Option.bind_some, hk1, k4]
        by_cases u0 : u ≤ 1
        · rw [if_pos u0]
          obtain ⟨I2, t1, t2, t3⟩ := M_lnkF (J := J) (Z := Z) h1 hK1 u0 hc h181
          rw [hk1] at t1 t3
          refine ⟨I2, ?_, hf1.trans t2, t3⟩
          rcases (by omega : u = 0 ∨ u = 1) with e | e
          · rw [if_pos (by rw [e]), h1.cv, t1, bd_some]
          · rw [if_neg (by rw [e]; decide), if_pos (by rw [e]), h1.cv, t1, bd_some]
        · rw [if_neg u0, if_neg (fun q => by have := nI_inj (by omega) (by omega) q; omega), if_neg (fun q => by have := nI_inj (by omega) (by omega) q; omega)]
          by_cases u2 : u = 2
          · subst u2
            obtain ⟨I2, t1, t2, t3⟩ := M_lnkC (J := J) (Z := Z) h1 hK1 hS1 hc h181
            rw [hk1] at t1 t3
            refine ⟨I2, ?_, hf1.trans t2, t3⟩
            rw [if_pos rfl, h1.cv, t1, bd_some]
            rfl
          · rw [if_neg u2, if_neg (fun q => u2 (nI_inj (by omega) (by omega) q))]
            by_cases u3 : u = 3
            · rw [if_pos u3, if_pos (by rw [u3]), h1.cv, h1.of k2 (by decide), bd_some]
              refine ⟨I1, ?_, hf1, h181⟩
              by_cases h7 : cl w v c 7 = nI 1
              · rw [if_pos h7, if_pos h7]
              · rw [if_neg h7, if_neg h7]
            · rw [if_neg u3, if_neg (fun q => u3 (nI_inj (by omega) (by omega) q))]
              by_cases u4 : u = 4
              · rw [if_pos u4, if_pos (by rw [u4]), h1.cv, h1.itf k2, bd_some, bIf]
                unfold exE
                cases hi : itB w v c
                · rw [if_ff, h1.cv, h1.of k2 (by decide), bd_some]
                  by_cases h6 : cl w v c 6 = nI 1
                  · rw [if_pos h6, if_pos (Or.inr h6)]
                    exact ⟨I1, rfl, hf1, h181⟩
                  · rw [if_neg h6, if_neg (fun q => by rcases q with q | q; cases q; exact h6 q)]
                    obtain ⟨I2, t1, t2⟩ := M_inc (J := J) (Z := Z) h1 hc
                    refine ⟨I2, ?_, hf1.trans t2.fl, by rw [t2.2 18 (by omega)]; exact h181⟩
                    rw [h1.cv, t1, bd_some, bIf]
                    cases incS w v (stB w v c) (lnB w v c) (upS w v c)
                    · rw [if_ff, if_ff]
                    · rw [if_tt, if_tt]
                · rw [if_tt, if_pos (Or.inl rfl)]
                  exact ⟨I1, rfl, hf1, h181⟩
              · rw [if_neg u4, if_neg (fun q => u4 (nI_inj (by omega) (by omega) q)), h1.cv, h1.itf k2, bd_some, bIf]
                cases hi : itB w v c
                · rw [if_ff, if_pos rfl]
                  exact ⟨I1, rfl, hf1, h181⟩
                · rw [if_tt, if_neg (by decide), h.G.p15, Option.bind_some, h.G.cl (by decide), Option.bind_some, hk1, k6, h1.cv]
                  obtain ⟨I2, t1, t2, t3⟩ := M_lbase (J := J) (Z := Z) h1 hc k3 h181
                  rw [hk1] at t1
                  exact ⟨I2, by rw [t1, bd_some], hf1.trans t2, t3⟩
end Lj
