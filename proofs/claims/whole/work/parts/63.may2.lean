/-! ===== what may stand where, the rest ===== -/
def accB (x : Int32) : Bool := decide (nI 0 ≤ x ∧ x ≤ nI 3)
section Mz
variable {g : Gr} {R a : Nat} {I : Mem} {J : Nat → Nat → Int64} {Z : Option Nat} {w : Nat → Int32} {v c s : Nat} {x y : Int32}
theorem fl_07 (h0 : ¬ y < 0) (h7 : y ≤ nI 7) : ∃ k, k < 8 ∧ y = nI k := nI_mem (n := 8) (by omega) h0 (by
  have : nI 7 < nI 8 := by decide
  exact Int32.lt_of_le_of_lt h7 this)
theorem C_alM (h : CB g I a w v) (he : exC w v c = true) : fX2_allowsMethod a (nI c) x y (mm g I J Z) = some (bI (alM w v c x y), mm g I J Z) := by
  have hc := exC_lt he
  have h37 : fX2_allowsMethod_37 a (nI c) x y (mm g I J Z) = some (bI (!itB w v c || (decide (x = nI 3) && decide (y &&& nI 2 = 0))), mm g I J Z) := by
    unfold fX2_allowsMethod_37
    rw [CB_cv h, C_isI h.L h.R hc, bd_some, he, Bool.true_and, bIf]
    cases itB w v c
    · rw [if_ff, rz_n1]; rfl
    · rw [if_tt]
      by_cases hx : x = nI 3
      · rw [if_pos hx, decide_eq_true hx]
        by_cases hy : y &&& nI 2 = 0
        · rw [if_pos hy, rz_n1, decide_eq_true hy]; rfl
        · rw [if_neg hy, rz_n0, decide_eq_false hy]; rfl
      · rw [if_neg hx, rz_n0, decide_eq_false hx]; rfl
  unfold fX2_allowsMethod alM
  by_cases h0 : y < 0
  · rw [if_pos h0, rz_n0, decide_eq_true h0]; rfl
  · rw [if_neg h0, decide_eq_false h0]
    by_cases h7 : y ≤ nI 7
    · rw [if_pos h7, decide_eq_true h7]
      obtain ⟨k, hk, rfl⟩ := fl_07 h0 h7
      obtain ⟨-, z1, z2⟩ := flg_0 hk
      have hd : decide (nI k &&& nI 2 = 0) = !bt (nI k) 1 := by
        cases hb : bt (nI k) 1
        · rw [decide_eq_true (z1.mpr hb)]; rfl
        · rw [decide_eq_false (fun q => by rw [z1.mp q] at hb; cases hb)]; rfl
      rw [hd] at h37
      cases hb : bt (nI k) 2
      · rw [if_pos (z2.mpr hb), h37]
        simp
      · rw [if_neg (fun q => by rw [z2.mp q] at hb; cases hb)]
        by_cases h4 : nI k = nI 4
        · rw [if_pos h4, decide_eq_true h4]
          by_cases hx : x = 0
          · rw [if_pos hx, rz_n0, decide_eq_true hx]; rfl
          · rw [if_neg hx, decide_eq_false hx, CB_cv h, C_isAbs h.L h.R hc, bd_some, he, Bool.true_and, bIf]
            cases decide (cl w v c 7 = nI 1)
            · rw [if_ff, rz_n0]; rfl
            · rw [if_tt, h37]; simp
        · rw [if_neg h4, rz_n0, decide_eq_false h4]; rfl
    · rw [if_neg h7, rz_n0, decide_eq_false h7]; rfl
theorem M_mayF (h : Mb g R I w v) (hc : c < 10) : fX9_mayBeField R (nI v) (nI c) x y (mm g I J Z) = some (bI (accB x && alF w v c x y), mm g I J Z) := by
  unfold fX9_mayBeField alF
  rw [M_within, bd_some, bIf]
  show (if accB x = true then _ else _) = _
  cases accB x
  · rw [if_ff, rz_n0]; rfl
  · rw [if_tt, M_within, bd_some, bIf, Bool.true_and]
    by_cases h0 : y < 0
    · rw [decide_eq_false (fun q => Int32.not_lt.mpr q.1 h0), if_ff, rz_n0, decide_eq_true h0]; rfl
    · by_cases h3 : y ≤ nI 3
      · rw [decide_eq_true ⟨Int32.not_lt.mp h0, h3⟩, if_tt, h.cv, h.itf hc, bd_some, bIf, decide_eq_false h0, decide_eq_true h3]
        cases itB w v c
        · rw [if_ff, rz_n1]; rfl
        · rw [if_tt]
          by_cases hx : x = nI 3
          · rw [if_pos hx, decide_eq_true hx]
            by_cases hy : y = nI 3
            · rw [if_pos hy, rz_n1, decide_eq_true hy]; rfl
            · rw [if_neg hy, rz_n0, decide_eq_false hy]; rfl
          · rw [if_neg hx, rz_n0, decide_eq_false hx]; rfl
      · rw [decide_eq_false (fun q => h3 q.2), if_ff, rz_n0, decide_eq_false h3, Bool.and_false]; rfl
theorem M_mayM (h : Mb g R I w v) (hc : c < 10) : fX9_mayBeMethod R (nI v) (nI c) x y (mm g I J Z) = some (bI (accB x && alM w v c x y), mm g I J Z) := by
  have h47 : fX9_mayBeMethod_47 R (nI v) (nI c) x y (mm g I J Z) = some (bI false, mm g I J Z) := by
    unfold fX9_mayBeMethod_47 fX9_mayBeMethod_48
    rw [if_pos (by decide), rz_n0]
  unfold fX9_mayBeMethod alM
  rw [M_within, bd_some, bIf]
  show (if accB x = true then _ else _) = _
  cases ha : accB x
  · rw [if_ff, h47]; rfl
  · have ha' : 0 ≤ x := by unfold accB at ha; exact (of_decide_eq_true ha).1
    rw [if_tt, M_within, bd_some, bIf, Bool.true_and]
    by_cases h0 : y < 0
    · rw [decide_eq_false (fun q => Int32.not_lt.mpr q.1 h0), if_ff, h47, decide_eq_true h0]; rfl
    · by_cases h7 : y ≤ nI 7
      · have h48 : fX9_mayBeMethod_48 R (nI v) (nI c) x y (nI 1) (mm g I J Z) = some (bI (!bt y 2 || (decide (y = nI 4) && !decide (x = 0) && decide (cl w v c 7 = nI 1))), mm g I J Z) := by
          unfold fX9_mayBeMethod_48
          rw [if_neg (by decide), M_has (by decide), bd_some, bIf]
          cases bt y 2
          · rw [if_ff, rz_n1]; rfl
          · rw [if_tt]
            by_cases h4 : y = nI 4
            · rw [if_pos h4, decide_eq_true h4]
              by_cases hx : x = 0
              · rw [if_pos (by rw [hx]; decide), rz_n0, decide_eq_true hx]; rfl
              · rw [if_neg (fun q => hx (Int32.le_antisymm q ha')), h.cv, h.of hc (by decide), bd_some, decide_eq_false hx]
                by_cases h1 : cl w v c 7 = nI 1
                · rw [if_pos h1, rz_n1, decide_eq_true h1]; rfl
                · rw [if_neg h1, rz_n0, decide_eq_false h1]; rfl
            · rw [if_neg h4, rz_n0, decide_eq_false h4]; rfl
        rw [decide_eq_true ⟨Int32.not_lt.mp h0, h7⟩, if_tt, h.cv, h.itf hc, bd_some, bIf, decide_eq_false h0, decide_eq_true h7]
        cases itB w v c
        · rw [if_ff, h48]; simp
        · rw [if_tt]
          by_cases hx : x = nI 3
          · rw [if_pos hx, M_has (by decide), bd_some, bIf, decide_eq_true hx]
            cases bt y 1
            · rw [if_ff, h48]; simp
            · rw [if_tt, h47]; simp
          · rw [if_neg hx, h47, decide_eq_false hx]; simp
      · rw [decide_eq_false (fun q => h7 q.2), if_ff, h47, decide_eq_false h7]; simp
end Mz
