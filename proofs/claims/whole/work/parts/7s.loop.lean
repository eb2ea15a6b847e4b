/-! ===== the law's rounds ===== -/
section Lr
variable {g : Gr} {A b L : Nat} {xs : Nat → Int32}
theorem law_loop (hL : L ≤ 3072) : ∀ (f i : Nat) (I : Mem) (J : Nat → Nat → Int64) (Z : Option Nat), LI g A b L xs I → i ≤ L → L < i + 6 * f → ∃ h', lL_law_23 f b A (A + 418) (A + 426) (nI i) (mm g I J Z) = some (1, h') := by
  intro f
  induction f with
  | zero => intro i I J Z _ h1 h2; omega
  | succ f ih =>
    intro i I J Z hl hi hf
    show ∃ h', bL_law_23 (lL_law_23 f) b A (A + 418) (A + 426) (nI i) (mm g I J Z) = some (1, h')
    unfold bL_law_23
    rw [lnS_m hl, Option.bind_some]
    by_cases hend : L < i + 6
    · rw [if_pos ((nI_l6 hL (by omega)).mpr hend), rz_n1]
      exact ⟨_, rfl⟩
    rw [if_neg (fun q => hend ((nI_l6 hL (by omega)).mp q)), hl.ld (i := i) (by omega) hL, Option.bind_some]
    have go : ∀ I' J' Z', LI g A b L xs I' → ∃ h', fL_law_2382 (lL_law_23 f) b A (A + 418) (A + 426) (nI i) (mm g I' J' Z') = some (1, h') := by
      intro I' J' Z' h'
      unfold fL_law_2382
      rw [nI_add]
      exact ih (i + 6) I' J' Z' h' (by omega) (by omega)
    obtain ⟨w, n, P, d, hR⟩ := hl.2.2.2.2.1
    have hJ := hR.jg
    have hG := hR.G
    by_cases c0 : xs i &&& nI 31 = nI 0
    · rw [if_pos c0, nI_add, nI_add, nI_add, hl.ld (i := i + 1) (by omega) hL, Option.bind_some, hl.ld (i := i + 2) (by omega) hL, Option.bind_some, hl.ld (i := i + 3) (by omega) hL, Option.bind_some]
      by_cases z3 : xs (i + 3) = 0
      · obtain ⟨q1, I1, J1, Z1, q2, I2, e1, l1, e2, l2, e3, e4⟩ := law_ab (cj := Int32.toInt64) hl (by decide) (show Agr g A I (fX8_define A (xs (i + 1)) (xs (i + 2)) (bI false) (xs (i + 4)) (xs (i + 5))) (fX9_define (A + 418) (xs (i + 1)) (xs (i + 2)) (bI false) (xs (i + 4)) (xs (i + 5))) [1, 2, 3] from Q_define hR) J Z
        rw [bf0] at e1 e2
        rw [if_pos z3]
        unfold fL_law_207
        rw [nI_add, nI_add, nI_add, nI_add, nI_add, hl.ld (i := i + 4) (by omega) hL, Option.bind_some, hl.ld (i := i + 5) (by omega) hL, Option.bind_some, W_define hJ, e1, bd_some, l1.ld (i := i + 1) (by omega) hL, Option.bind_some, l1.ld (i := i + 2) (by omega) hL, Option.bind_some, l1.ld (i := i + 3) (by omega) hL, Option.bind_some, if_pos z3]
        unfold fL_law_252
        rw [nI_add, nI_add, l1.ld (i := i + 4) (by omega) hL, Option.bind_some, l1.ld (i := i + 5) (by omega) hL, Option.bind_some, M_cv hG, e2, bd_some]
        exact law_tl hG l2 e3 e4 go
      · obtain ⟨q1, I1, J1, Z1, q2, I2, e1, l1, e2, l2, e3, e4⟩ := law_ab (cj := Int32.toInt64) hl (by decide) (show Agr g A I (fX8_define A (xs (i + 1)) (xs (i + 2)) (bI true) (xs (i + 4)) (xs (i + 5))) (fX9_define (A + 418) (xs (i + 1)) (xs (i + 2)) (bI true) (xs (i + 4)) (xs (i + 5))) [1, 2, 3] from Q_define hR) J Z
        rw [bt1] at e1 e2
        rw [if_neg z3]
        unfold fL_law_207
        rw [nI_add, nI_add, nI_add, nI_add, nI_add, hl.ld (i := i + 4) (by omega) hL, Option.bind_some, hl.ld (i := i + 5) (by omega) hL, Option.bind_some, W_define hJ, e1, bd_some, l1.ld (i := i + 1) (by omega) hL, Option.bind_some, l1.ld (i := i + 2) (by omega) hL, Option.bind_some, l1.ld (i := i + 3) (by omega) hL, Option.bind_some, if_neg z3]
        unfold fL_law_252
        rw [nI_add, nI_add, l1.ld (i := i + 4) (by omega) hL, Option.bind_some, l1.ld (i := i + 5) (by omega) hL, Option.bind_some, M_cv hG, e2, bd_some]
        exact law_tl hG l2 e3 e4 go
    rw [if_neg c0]
    by_cases c1 : xs i &&& nI 31 = nI 1
    · obtain ⟨q1, I1, J1, Z1, q2, I2, e1, l1, e2, l2, e3, e4⟩ := law_ab (cj := Int32.toInt64) hl (by decide) (show Agr g A I (fX8_removeClass A (xs (i + 1)) (xs (i + 2))) (fX9_removeClass (A + 418) (xs (i + 1)) (xs (i + 2))) [1, 3] from Q_removeClass hR) J Z
      rw [if_pos c1, nI_add, nI_add, hl.ld (i := i + 1) (by omega) hL, Option.bind_some, hl.ld (i := i + 2) (by omega) hL, Option.bind_some, W_removeClass hJ, e1, bd_some, l1.ld (i := i + 1) (by omega) hL, Option.bind_some, l1.ld (i := i + 2) (by omega) hL, Option.bind_some, M_cv hG, e2, bd_some]
      exact law_tl hG l2 e3 e4 go
    rw [if_neg c1]
    by_cases c2 : xs i &&& nI 31 = nI 2
    · obtain ⟨q1, I1, J1, Z1, q2, I2, e1, l1, e2, l2, e3, e4⟩ := law_ab (cj := Int32.toInt64) hl (by decide) (show Agr g A I (fX8_setClass A (xs (i + 1)) (xs (i + 2)) (xs (i + 3)) (xs (i + 4))) (fX9_setClass (A + 418) (xs (i + 1)) (xs (i + 2)) (xs (i + 3)) (xs (i + 4))) [1, 2, 3] from Q_setClass hR) J Z
      rw [if_pos c2, nI_add, nI_add, nI_add, nI_add, hl.ld (i := i + 1) (by omega) hL, Option.bind_some, hl.ld (i := i + 2) (by omega) hL, Option.bind_some, hl.ld (i := i + 3) (by omega) hL, Option.bind_some, hl.ld (i := i + 4) (by omega) hL, Option.bind_some, W_setClass hJ, e1, bd_some, l1.ld (i := i + 1) (by omega) hL, Option.bind_some, l1.ld (i := i + 2) (by omega) hL, Option.bind_some, l1.ld (i := i + 3) (by omega) hL, Option.bind_some, l1.ld (i := i + 4) (by omega) hL, Option.bind_some, M_cv hG, e2, bd_some]
      exact law_tl hG l2 e3 e4 go
    rw [if_neg c2]
    by_cases c3 : xs i &&& nI 31 = nI 3
    · obtain ⟨q1, I1, J1, Z1, q2, I2, e1, l1, e2, l2, e3, e4⟩ := law_ab (cj := c01) hl (by decide) (show Agr g A I (fX8_exists A (xs (i + 1)) (xs (i + 2))) (fX9_exists (A + 418) (xs (i + 1)) (xs (i + 2))) [1] from Q_exists hR) J Z
      rw [if_pos c3, nI_add, nI_add, hl.ld (i := i + 1) (by omega) hL, Option.bind_some, hl.ld (i := i + 2) (by omega) hL, Option.bind_some, W_exists hJ, e1, bd_some, l1.ld (i := i + 1) (by omega) hL, Option.bind_some, l1.ld (i := i + 2) (by omega) hL, Option.bind_some, M_cv hG, e2, bd_some]
      exact law_t1 (T := fL_law_526 (lL_law_23 f) b A (A + 418) (A + 426) (nI i)) (fun _ _ _ => rfl) hG l2 e3 e4 go
    rw [if_neg c3]
    by_cases c4 : xs i &&& nI 31 = nI 4
    · obtain ⟨q1, I1, J1, Z1, q2, I2, e1, l1, e2, l2, e3, e4⟩ := law_ab (cj := Int32.toInt64) hl (by decide) (show Agr g A I (fX8_classInfo A (xs (i + 1)) (xs (i + 2)) (xs (i + 3))) (fX9_classInfo (A + 418) (xs (i + 1)) (xs (i + 2)) (xs (i + 3))) [1, 2] from Q_classInfo hR) J Z
      rw [if_pos c4, nI_add, nI_add, nI_add, hl.ld (i := i + 1) (by omega) hL, Option.bind_some, hl.ld (i := i + 2) (by omega) hL, Option.bind_some, hl.ld (i := i + 3) (by omega) hL, Option.bind_some, W_classInfo hJ, e1, bd_some, l1.ld (i := i + 1) (by omega) hL, Option.bind_some, l1.ld (i := i + 2) (by omega) hL, Option.bind_some, l1.ld (i := i + 3) (by omega) hL, Option.bind_some, M_cv hG, e2, bd_some]
      exact law_tl hG l2 e3 e4 go
    rw [if_neg c4]
    by_cases c5 : xs i &&& nI 31 = nI 5
    · rw [if_pos c5, hJ.cv]
      obtain ⟨q, I1, Z1, e1, f1, e2⟩ := Q_copyVersion hR J Z
      cases hv : fX8_copyVersion A (mm g I J Z) with
      | none =>
        have e0 : (bd (fX8_copyVersion A (mm g I J Z)) fun x h => some (Sum.inr x, h)) = some (q, mm g I1 J Z1) := e1
        rw [hv] at e0
        cases e0
      | some r =>
        obtain ⟨xv, hv1⟩ := r
        have e1' : (some (Sum.inr xv, hv1) : Option ((Nat ⊕ Int32) × AH)) = some (q, mm g I1 J Z1) := by
          rw [← e1]
          show _ = bd (fX8_copyVersion A (mm g I J Z)) (fun x h => some (Sum.inr x, h))
          rw [hv]; rfl
        have e5 := Prod.mk.inj (Option.some.inj e1')
        obtain ⟨e6, e7⟩ := e5
        subst e6
        subst e7
        obtain ⟨q2, I2, m1, m2, m3, m4⟩ := e2 J Z1
        rw [bd_some, M_cv hG, m1, bd_some, if_pos m4.2]
        exact go _ _ _ (hl.fr m2 m3)
    rw [if_neg c5]
    by_cases c6 : xs i &&& nI 31 = nI 6
    · obtain ⟨q1, I1, J1, Z1, q2, I2, e1, l1, e2, l2, e3, e4⟩ := law_ab (cj := Int32.toInt64) hl (by decide) (show Agr g A I (fX8_draft A (xs (i + 1)) (xs (i + 2)) (xs (i + 3)) (xs (i + 4))) (fX9_draft (A + 418) (xs (i + 1)) (xs (i + 2)) (xs (i + 3)) (xs (i + 4))) [2] from Q_draft hR) J Z
      rw [if_pos c6, nI_add, nI_add, nI_add, nI_add, hl.ld (i := i + 1) (by omega) hL, Option.bind_some, hl.ld (i := i + 2) (by omega) hL, Option.bind_some, hl.ld (i := i + 3) (by omega) hL, Option.bind_some, hl.ld (i := i + 4) (by omega) hL, Option.bind_some, W_draft hJ, e1, bd_some, l1.ld (i := i + 1) (by omega) hL, Option.bind_some, l1.ld (i := i + 2) (by omega) hL, Option.bind_some, l1.ld (i := i + 3) (by omega) hL, Option.bind_some, l1.ld (i := i + 4) (by omega) hL, Option.bind_some, M_cv hG, e2, bd_some]
      exact law_tl hG l2 e3 e4 go
    rw [if_neg c6]
    by_cases c7 : xs i &&& nI 31 = nI 7
    · obtain ⟨q1, I1, J1, Z1, q2, I2, e1, l1, e2, l2, e3, e4⟩ := law_ab (cj := Int32.toInt64) hl (by decide) (show Agr g A I (fX8_addField A (xs (i + 1)) (xs (i + 2)) (xs (i + 3)) (xs (i + 4)) (xs (i + 5))) (fX9_addField (A + 418) (xs (i + 1)) (xs (i + 2)) (xs (i + 3)) (xs (i + 4)) (xs (i + 5))) [1, 2, 3] from Q_addField hR) J Z
      rw [if_pos c7, nI_add, nI_add, nI_add, nI_add, nI_add, hl.ld (i := i + 1) (by omega) hL, Option.bind_some, hl.ld (i := i + 2) (by omega) hL, Option.bind_some, hl.ld (i := i + 3) (by omega) hL, Option.bind_some, hl.ld (i := i + 4) (by omega) hL, Option.bind_some, hl.ld (i := i + 5) (by omega) hL, Option.bind_some, W_addField hJ, e1, bd_some, l1.ld (i := i + 1) (by omega) hL, Option.bind_some, l1.ld (i := i + 2) (by omega) hL, Option.bind_some, l1.ld (i := i + 3) (by omega) hL, Option.bind_some, l1.ld (i := i + 4) (by omega) hL, Option.bind_some, l1.ld (i := i + 5) (by omega) hL, Option.bind_some, M_cv hG, e2, bd_some]
      exact law_tl hG l2 e3 e4 go
    rw [if_neg c7]
    by_cases c8 : xs i &&& nI 31 = nI 8
    · obtain ⟨q1, I1, J1, Z1, q2, I2, e1, l1, e2, l2, e3, e4⟩ := law_ab (cj := Int32.toInt64) hl (by decide) (show Agr g A I (fX8_addMethod A (xs (i + 1)) (xs (i + 2)) (xs (i + 3)) (xs (i + 4)) (xs (i + 5))) (fX9_addMethod (A + 418) (xs (i + 1)) (xs (i + 2)) (xs (i + 3)) (xs (i + 4)) (xs (i + 5))) [1, 2, 3] from Q_addMethod hR) J Z
      rw [if_pos c8, nI_add, nI_add, nI_add, nI_add, nI_add, hl.ld (i := i + 1) (by omega) hL, Option.bind_some, hl.ld (i := i + 2) (by omega) hL, Option.bind_some, hl.ld (i := i + 3) (by omega) hL, Option.bind_some, hl.ld (i := i + 4) (by omega) hL, Option.bind_some, hl.ld (i := i + 5) (by omega) hL, Option.bind_some, W_addMethod hJ, e1, bd_some, l1.ld (i := i + 1) (by omega) hL, Option.bind_some, l1.ld (i := i + 2) (by omega) hL, Option.bind_some, l1.ld (i := i + 3) (by omega) hL, Option.bind_some, l1.ld (i := i + 4) (by omega) hL, Option.bind_some, l1.ld (i := i + 5) (by omega) hL, Option.bind_some, M_cv hG, e2, bd_some]
      exact law_tl hG l2 e3 e4 go
    rw [if_neg c8]
    by_cases c9 : xs i &&& nI 31 = nI 9
    · obtain ⟨q1, I1, J1, Z1, q2, I2, e1, l1, e2, l2, e3, e4⟩ := law_ab (cj := Int32.toInt64) hl (by decide) (show Agr g A I (fX8_removeMember A (xs (i + 1)) (xs (i + 2))) (fX9_removeMember (A + 418) (xs (i + 1)) (xs (i + 2))) [1] from Q_removeMember hR) J Z
      rw [if_pos c9, nI_add, nI_add, hl.ld (i := i + 1) (by omega) hL, Option.bind_some, hl.ld (i := i + 2) (by omega) hL, Option.bind_some, W_removeMember hJ, e1, bd_some, l1.ld (i := i + 1) (by omega) hL, Option.bind_some, l1.ld (i := i + 2) (by omega) hL, Option.bind_some, M_cv hG, e2, bd_some]
      exact law_tl hG l2 e3 e4 go
    rw [if_neg c9]
    by_cases c10 : xs i &&& nI 31 = nI 10
    · obtain ⟨q1, I1, J1, Z1, q2, I2, e1, l1, e2, l2, e3, e4⟩ := law_ab (cj := Int32.toInt64) hl (by decide) (show Agr g A I (fX8_setMember A (xs (i + 1)) (xs (i + 2)) (xs (i + 3)) (xs (i + 4))) (fX9_setMember (A + 418) (xs (i + 1)) (xs (i + 2)) (xs (i + 3)) (xs (i + 4))) [1, 2] from Q_setMember hR) J Z
      rw [if_pos c10, nI_add, nI_add, nI_add, nI_add, hl.ld (i := i + 1) (by omega) hL, Option.bind_some, hl.ld (i := i + 2) (by omega) hL, Option.bind_some, hl.ld (i := i + 3) (by omega) hL, Option.bind_some, hl.ld (i := i + 4) (by omega) hL, Option.bind_some, W_setMember hJ, e1, bd_some, l1.ld (i := i + 1) (by omega) hL, Option.bind_some, l1.ld (i := i + 2) (by omega) hL, Option.bind_some, l1.ld (i := i + 3) (by omega) hL, Option.bind_some, l1.ld (i := i + 4) (by omega) hL, Option.bind_some, M_cv hG, e2, bd_some]
      exact law_tl hG l2 e3 e4 go
    rw [if_neg c10]
    by_cases c11 : xs i &&& nI 31 = nI 11
    · obtain ⟨q1, I1, J1, Z1, q2, I2, e1, l1, e2, l2, e3, e4⟩ := law_ab (cj := Int32.toInt64) hl (by decide) (show Agr g A I (fX8_moveMember A (xs (i + 1)) (xs (i + 2)) (xs (i + 3))) (fX9_moveMember (A + 418) (xs (i + 1)) (xs (i + 2)) (xs (i + 3))) [1, 2, 3] from Q_moveMember hR) J Z
      rw [if_pos c11, nI_add, nI_add, nI_add, hl.ld (i := i + 1) (by omega) hL, Option.bind_some, hl.ld (i := i + 2) (by omega) hL, Option.bind_some, hl.ld (i := i + 3) (by omega) hL, Option.bind_some, W_moveMember hJ, e1, bd_some, l1.ld (i := i + 1) (by omega) hL, Option.bind_some, l1.ld (i := i + 2) (by omega) hL, Option.bind_some, l1.ld (i := i + 3) (by omega) hL, Option.bind_some, M_cv hG, e2, bd_some]
      exact law_tl hG l2 e3 e4 go
    rw [if_neg c11]
    by_cases c12 : xs i &&& nI 31 = nI 12
    · obtain ⟨q1, I1, J1, Z1, q2, I2, e1, l1, e2, l2, e3, e4⟩ := law_ab (cj := Int32.toInt64) hl (by decide) (show Agr g A I (fX8_members A (xs (i + 1))) (fX9_members (A + 418) (xs (i + 1))) [1] from Q_members hR) J Z
      rw [if_pos c12, nI_add, hl.ld (i := i + 1) (by omega) hL, Option.bind_some, W_members hJ, e1, bd_some, l1.ld (i := i + 1) (by omega) hL, Option.bind_some, M_cv hG, e2, bd_some]
      exact law_tl hG l2 e3 e4 go
    rw [if_neg c12]
    by_cases c13 : xs i &&& nI 31 = nI 13
    · obtain ⟨q1, I1, J1, Z1, q2, I2, e1, l1, e2, l2, e3, e4⟩ := law_ab (cj := Int32.toInt64) hl (by decide) (show Agr g A I (fX8_memberInfo A (xs (i + 1)) (xs (i + 2)) (xs (i + 3))) (fX9_memberInfo (A + 418) (xs (i + 1)) (xs (i + 2)) (xs (i + 3))) [1, 2] from Q_memberInfo hR) J Z
      rw [if_pos c13, nI_add, nI_add, nI_add, hl.ld (i := i + 1) (by omega) hL, Option.bind_some, hl.ld (i := i + 2) (by omega) hL, Option.bind_some, hl.ld (i := i + 3) (by omega) hL, Option.bind_some, W_memberInfo hJ, e1, bd_some, l1.ld (i := i + 1) (by omega) hL, Option.bind_some, l1.ld (i := i + 2) (by omega) hL, Option.bind_some, l1.ld (i := i + 3) (by omega) hL, Option.bind_some, M_cv hG, e2, bd_some]
      exact law_tl hG l2 e3 e4 go
    rw [if_neg c13]
    by_cases c14 : xs i &&& nI 31 = nI 14
    · obtain ⟨q1, I1, J1, Z1, q2, I2, e1, l1, e2, l2, e3, e4⟩ := law_ab (cj := c01) hl (by decide) (show Agr g A I (fX8_fits A (xs (i + 1)) (xs (i + 2)) (xs (i + 3))) (fX9_fits (A + 418) (xs (i + 1)) (xs (i + 2)) (xs (i + 3))) [1, 2] from Q_fits hR) J Z
      rw [if_pos c14, nI_add, nI_add, nI_add, hl.ld (i := i + 1) (by omega) hL, Option.bind_some, hl.ld (i := i + 2) (by omega) hL, Option.bind_some, hl.ld (i := i + 3) (by omega) hL, Option.bind_some, W_fits hJ, e1, bd_some, l1.ld (i := i + 1) (by omega) hL, Option.bind_some, l1.ld (i := i + 2) (by omega) hL, Option.bind_some, l1.ld (i := i + 3) (by omega) hL, Option.bind_some, M_cv hG, e2, bd_some]
      exact law_t1 (T := fL_law_1382 (lL_law_23 f) b A (A + 418) (A + 426) (nI i)) (fun _ _ _ => rfl) hG l2 e3 e4 go
    rw [if_neg c14]
    by_cases c15 : xs i &&& nI 31 = nI 15
    · obtain ⟨q1, I1, J1, Z1, q2, I2, e1, l1, e2, l2, e3, e4⟩ := law_ab (cj := Int32.toInt64) hl (by decide) (show Agr g A I (fX8_field A (xs (i + 1)) (xs (i + 2)) (xs (i + 3))) (fX9_field (A + 418) (xs (i + 1)) (xs (i + 2)) (xs (i + 3))) [1, 2] from Q_field hR) J Z
      rw [if_pos c15, nI_add, nI_add, nI_add, hl.ld (i := i + 1) (by omega) hL, Option.bind_some, hl.ld (i := i + 2) (by omega) hL, Option.bind_some, hl.ld (i := i + 3) (by omega) hL, Option.bind_some, W_field hJ, e1, bd_some, l1.ld (i := i + 1) (by omega) hL, Option.bind_some, l1.ld (i := i + 2) (by omega) hL, Option.bind_some, l1.ld (i := i + 3) (by omega) hL, Option.bind_some, M_cv hG, e2, bd_some]
      exact law_tl hG l2 e3 e4 go
    rw [if_neg c15]
    by_cases c16 : xs i &&& nI 31 = nI 16
    · obtain ⟨q1, I1, J1, Z1, q2, I2, e1, l1, e2, l2, e3, e4⟩ := law_ab (cj := Int32.toInt64) hl (by decide) (show Agr g A I (fX8_method A (xs (i + 1)) (xs (i + 2)) (xs (i + 3))) (fX9_method (A + 418) (xs (i + 1)) (xs (i + 2)) (xs (i + 3))) [1, 2] from Q_method hR) J Z
      rw [if_pos c16, nI_add, nI_add, nI_add, hl.ld (i := i + 1) (by omega) hL, Option.bind_some, hl.ld (i := i + 2) (by omega) hL, Option.bind_some, hl.ld (i := i + 3) (by omega) hL, Option.bind_some, W_method hJ, e1, bd_some, l1.ld (i := i + 1) (by omega) hL, Option.bind_some, l1.ld (i := i + 2) (by omega) hL, Option.bind_some, l1.ld (i := i + 3) (by omega) hL, Option.bind_some, M_cv hG, e2, bd_some]
      exact law_tl hG l2 e3 e4 go
    rw [if_neg c16]
    by_cases c17 : xs i &&& nI 31 = nI 17
    · obtain ⟨q1, I1, J1, Z1, q2, I2, e1, l1, e2, l2, e3, e4⟩ := law_ab (cj := Int32.toInt64) hl (by decide) (show Agr g A I (fX8_selected A (xs (i + 1)) (xs (i + 2)) (xs (i + 3))) (fX9_selected (A + 418) (xs (i + 1)) (xs (i + 2)) (xs (i + 3))) [1, 2] from Q_selected hR) J Z
      rw [if_pos c17, nI_add, nI_add, nI_add, hl.ld (i := i + 1) (by omega) hL, Option.bind_some, hl.ld (i := i + 2) (by omega) hL, Option.bind_some, hl.ld (i := i + 3) (by omega) hL, Option.bind_some, W_selected hJ, e1, bd_some, l1.ld (i := i + 1) (by omega) hL, Option.bind_some, l1.ld (i := i + 2) (by omega) hL, Option.bind_some, l1.ld (i := i + 3) (by omega) hL, Option.bind_some, M_cv hG, e2, bd_some]
      exact law_tl hG l2 e3 e4 go
    rw [if_neg c17]
    by_cases c18 : xs i &&& nI 31 = nI 18
    · obtain ⟨q1, I1, J1, Z1, q2, I2, e1, l1, e2, l2, e3, e4⟩ := law_ab (cj := Int32.toInt64) hl (by decide) (show Agr g A I (fX8_addClient A (xs (i + 1)) (xs (i + 2)) (xs (i + 3)) (xs (i + 4))) (fX9_addClient (A + 418) (xs (i + 1)) (xs (i + 2)) (xs (i + 3)) (xs (i + 4))) [2, 3] from Q_addClient hR) J Z
      rw [if_pos c18, nI_add, nI_add, nI_add, nI_add, hl.ld (i := i + 1) (by omega) hL, Option.bind_some, hl.ld (i := i + 2) (by omega) hL, Option.bind_some, hl.ld (i := i + 3) (by omega) hL, Option.bind_some, hl.ld (i := i + 4) (by omega) hL, Option.bind_some, W_addClient hJ, e1, bd_some, l1.ld (i := i + 1) (by omega) hL, Option.bind_some, l1.ld (i := i + 2) (by omega) hL, Option.bind_some, l1.ld (i := i + 3) (by omega) hL, Option.bind_some, l1.ld (i := i + 4) (by omega) hL, Option.bind_some, M_cv hG, e2, bd_some]
      exact law_tl hG l2 e3 e4 go
    rw [if_neg c18]
    by_cases c19 : xs i &&& nI 31 = nI 19
    · obtain ⟨q1, I1, J1, Z1, q2, I2, e1, l1, e2, l2, e3, e4⟩ := law_ab (cj := Int32.toInt64) hl (by decide) (show Agr g A I (fX8_setBase A (xs (i + 1)) (xs (i + 2))) (fX9_setBase (A + 418) (xs (i + 1)) (xs (i + 2))) [1, 2] from Q_setBase hR) J Z
      rw [if_pos c19, nI_add, nI_add, hl.ld (i := i + 1) (by omega) hL, Option.bind_some, hl.ld (i := i + 2) (by omega) hL, Option.bind_some, W_setBase hJ, e1, bd_some, l1.ld (i := i + 1) (by omega) hL, Option.bind_some, l1.ld (i := i + 2) (by omega) hL, Option.bind_some, M_cv hG, e2, bd_some]
      exact law_tl hG l2 e3 e4 go
    rw [if_neg c19]
    by_cases c20 : xs i &&& nI 31 = nI 20
    · obtain ⟨q1, I1, J1, Z1, q2, I2, e1, l1, e2, l2, e3, e4⟩ := law_ab (cj := Int32.toInt64) hl (by decide) (show Agr g A I (fX8_removeClient A (xs (i + 1))) (fX9_removeClient (A + 418) (xs (i + 1))) [1] from Q_removeClient hR) J Z
      rw [if_pos c20, nI_add, hl.ld (i := i + 1) (by omega) hL, Option.bind_some, W_removeClient hJ, e1, bd_some, l1.ld (i := i + 1) (by omega) hL, Option.bind_some, M_cv hG, e2, bd_some]
      exact law_tl hG l2 e3 e4 go
    rw [if_neg c20]
    by_cases c21 : xs i &&& nI 31 = nI 21
    · rw [if_pos c21, hJ.cv, (Q_clients hR).1, bd_some, M_cv hG, (Q_clients hR).2, bd_some, if_pos rfl]
      exact go _ _ _ (hl.fr (fun x hx => up2_ne (by omega)) ⟨w, n, P, d, hR.up3⟩)
    rw [if_neg c21]
    by_cases c22 : xs i &&& nI 31 = nI 22
    · obtain ⟨q1, I1, J1, Z1, q2, I2, e1, l1, e2, l2, e3, e4⟩ := law_ab (cj := Int32.toInt64) hl (by decide) (show Agr g A I (fX8_clientInfo A (xs (i + 1)) (xs (i + 2))) (fX9_clientInfo (A + 418) (xs (i + 1)) (xs (i + 2))) [1, 2] from Q_clientInfo hR) J Z
      rw [if_pos c22, nI_add, nI_add, hl.ld (i := i + 1) (by omega) hL, Option.bind_some, hl.ld (i := i + 2) (by omega) hL, Option.bind_some, W_clientInfo hJ, e1, bd_some, l1.ld (i := i + 1) (by omega) hL, Option.bind_some, l1.ld (i := i + 2) (by omega) hL, Option.bind_some, M_cv hG, e2, bd_some]
      exact law_tl hG l2 e3 e4 go
    rw [if_neg c22]
    by_cases c23 : xs i &&& nI 31 = nI 23
    · obtain ⟨q1, I1, J1, Z1, q2, I2, e1, l1, e2, l2, e3, e4⟩ := law_ab (cj := Int32.toInt64) hl (by decide) (show Agr g A I (fX8_compile A (xs (i + 1)) (xs (i + 2))) (fX9_compile (A + 418) (xs (i + 1)) (xs (i + 2))) [1] from Q_compile hR) J Z
      rw [if_pos c23, nI_add, nI_add, hl.ld (i := i + 1) (by omega) hL, Option.bind_some, hl.ld (i := i + 2) (by omega) hL, Option.bind_some, W_compile hJ, e1, bd_some, l1.ld (i := i + 1) (by omega) hL, Option.bind_some, l1.ld (i := i + 2) (by omega) hL, Option.bind_some, M_cv hG, e2, bd_some]
      exact law_tl hG l2 e3 e4 go
    rw [if_neg c23]
    by_cases c24 : xs i &&& nI 31 = nI 24
    · obtain ⟨q1, I1, J1, Z1, q2, I2, e1, l1, e2, l2, e3, e4⟩ := law_ab (cj := Int32.toInt64) hl (by decide) (show Agr g A I (fX8_link A (xs (i + 1)) (xs (i + 2))) (fX9_link (A + 418) (xs (i + 1)) (xs (i + 2))) [1] from Q_link hR) J Z
      rw [if_pos c24, nI_add, nI_add, hl.ld (i := i + 1) (by omega) hL, Option.bind_some, hl.ld (i := i + 2) (by omega) hL, Option.bind_some, W_link hJ, e1, bd_some, l1.ld (i := i + 1) (by omega) hL, Option.bind_some, l1.ld (i := i + 2) (by omega) hL, Option.bind_some, M_cv hG, e2, bd_some]
      exact law_tl hG l2 e3 e4 go
    rw [if_neg c24]
    by_cases c25 : xs i &&& nI 31 = nI 25
    · obtain ⟨q1, I1, J1, Z1, q2, I2, e1, l1, e2, l2, e3, e4⟩ := law_ab (cj := Int32.toInt64) hl (by decide) (show Agr g A I (fX8_target A (xs (i + 1)) (xs (i + 2))) (fX9_target (A + 418) (xs (i + 1)) (xs (i + 2))) [1] from Q_target hR) J Z
      rw [if_pos c25, nI_add, nI_add, hl.ld (i := i + 1) (by omega) hL, Option.bind_some, hl.ld (i := i + 2) (by omega) hL, Option.bind_some, W_target hJ, e1, bd_some, l1.ld (i := i + 1) (by omega) hL, Option.bind_some, l1.ld (i := i + 2) (by omega) hL, Option.bind_some, M_cv hG, e2, bd_some]
      exact law_tl hG l2 e3 e4 go
    rw [if_neg c25]
    by_cases c26 : xs i &&& nI 31 = nI 26
    · obtain ⟨q1, I1, J1, Z1, q2, I2, e1, l1, e2, l2, e3, e4⟩ := law_ab (cj := Int32.toInt64) hl (by decide) (show Agr g A I (fX8_verdict A (xs (i + 1))) (fX9_verdict (A + 418) (xs (i + 1))) [1] from Q_verdict hR) J Z
      rw [if_pos c26, nI_add, hl.ld (i := i + 1) (by omega) hL, Option.bind_some, W_verdict hJ, e1, bd_some, l1.ld (i := i + 1) (by omega) hL, Option.bind_some, M_cv hG, e2, bd_some]
      exact law_tl hG l2 e3 e4 go
    rw [if_neg c26]
    by_cases c27 : xs i &&& nI 31 = nI 27
    · obtain ⟨q1, I1, J1, Z1, q2, I2, e1, l1, e2, l2, e3, e4⟩ := law_ab (cj := Int32.toInt64) hl (by decide) (show Agr g A I (fX8_count A (xs (i + 1))) (fX9_count (A + 418) (xs (i + 1))) [2] from Q_count hR) J Z
      rw [if_pos c27, nI_add, hl.ld (i := i + 1) (by omega) hL, Option.bind_some, W_count hJ, e1, bd_some, l1.ld (i := i + 1) (by omega) hL, Option.bind_some, M_cv hG, e2, bd_some]
      exact law_tl hG l2 e3 e4 go
    rw [if_neg c27]
    by_cases c28 : xs i &&& nI 31 = nI 28
    · obtain ⟨q1, I1, J1, Z1, q2, I2, e1, l1, e2, l2, e3, e4⟩ := law_ab (cj := Int32.toInt64) hl (by decide) (show Agr g A I (fX8_sample A (xs (i + 1)) (xs (i + 2)) (xs (i + 3))) (fX9_sample (A + 418) (xs (i + 1)) (xs (i + 2)) (xs (i + 3))) [2] from Q_sample hR) J Z
      rw [if_pos c28, nI_add, nI_add, nI_add, hl.ld (i := i + 1) (by omega) hL, Option.bind_some, hl.ld (i := i + 2) (by omega) hL, Option.bind_some, hl.ld (i := i + 3) (by omega) hL, Option.bind_some, W_sample hJ, e1, bd_some, l1.ld (i := i + 1) (by omega) hL, Option.bind_some, l1.ld (i := i + 2) (by omega) hL, Option.bind_some, l1.ld (i := i + 3) (by omega) hL, Option.bind_some, M_cv hG, e2, bd_some]
      exact law_tl hG l2 e3 e4 go
    rw [if_neg c28]
    by_cases c29 : xs i &&& nI 31 = nI 29
    · obtain ⟨q1, I1, J1, Z1, q2, I2, e1, l1, e2, l2, e3, e4⟩ := law_ab (cj := Int32.toInt64) hl (by decide) (show Agr g A I (fX8_undo A) (fX9_undo (A + 418)) [3] from Q_undo hR) J Z
      rw [if_pos c29, W_undo hJ, e1, bd_some, M_cv hG, e2, bd_some]
      exact law_tl hG l2 e3 e4 go
    rw [if_neg c29]
    by_cases c30 : xs i &&& nI 31 = nI 30
    · obtain ⟨I1, a1, a2⟩ := C_sum (J := J) (Z := Z) hR
      have hR1 := hR.fvc a2
      obtain ⟨I2, J2, b1, b2⟩ := M_sum (J := J) (Z := Z) hR1.m
      rw [if_pos c30, hJ.cv, a1, bd_some, M_cv hG, b1, bd_some, if_pos (cmp_self _)]
      exact go _ _ _ (hl.fr (fun x hx => (b2.1 x (by omega) (by omega) (by omega) (by omega) (by omega)).trans (a2 x (by omega) (by omega) (by omega))) ⟨w, n, P, d, hR1.fvm b2⟩)
    rw [if_neg c30]
    exact go _ _ _ hl
end Lr
