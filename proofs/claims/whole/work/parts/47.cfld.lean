/-! ===== the class: fieldFor ===== -/
section Cf
variable {g : Gr} {a : Nat} {I I' : Mem} {J : Nat → Nat → Int64} {Z : Option Nat} {w : Nat → Int32} {v : Nat} {nm t : Int32}
/-- only the scratch row of a library may change -/
def Fa (a : Nat) (I I' : Mem) : Prop := ∀ b, b ≠ a + 19 → I' b = I b
theorem Fa.refl : Fa a I I := fun _ _ => rfl
theorem Fa.trans {I'' : Mem} (h : Fa a I I') (h' : Fa a I' I'') : Fa a I I'' := fun b hb => (h' b hb).trans (h b hb)
theorem CB.fa (h : CB g I a w v) (hf : Fa a I I') : CB g I' a w v := h.fr (fun b _ h2 => hf b (by omega))
theorem fa_up {k : Nat} {x : Int32} : Fa a I (up2 I (a + 19) k x) := fun b hb => up2_ne hb
/-- the last of those with P that belong to i -/
theorem ls_onS {n : Nat} {o : Nat → Nat} {D : Nat → Bool} (hU : ∀ k j, k < n → j < n → D k = true → D j = true → o k = o j → k = j) (i : Nat) : ls (fun m => D m && decide (o m = i)) n = onS n o D i := by
  cases h : ls (fun m => D m && decide (o m = i)) n with
  | none =>
    symm
    refine fst_none_of (fun j _ hj => ?_)
    have := ls_none h j (by omega)
    rw [Bool.and_comm]
    exact this
  | some m =>
    obtain ⟨a, b, -⟩ := ls_some h
    simp only [Bool.and_eq_true, decide_eq_true_eq] at b
    exact (onS_of hU a b.2 b.1).symm
theorem C_inhL (h : CB g I a w v) {k : Nat} (hk0 : 0 < k) (he : exC w v k = true) {F : Nat → Option Nat} (hF : ∀ j m, F j = some m → m < nmb w v) (hI : ∀ j, j < k → I (a + 19) j = oI (F j)) :
    ∀ (d i f : Nat), i + d = k → d < f → lX2_inheritedField_2 f a (nI k) (nI i) (mm g I J Z) = some (oI (orS (fbG w v F k i d) (F (spn w v k))), mm g I J Z) := by
  have hn := h.M.n40
  have hk := exC_lt he
  obtain ⟨a1, a2, a3, a4⟩ := h.C.spx hk0 he
  intro d
  induction d with
  | zero =>
    intro i f hi hf
    obtain ⟨f, rfl⟩ : ∃ z, f = z + 1 := ⟨f - 1, by omega⟩
    show bX2_inheritedField_2 (lX2_inheritedField_2 f) a _ _ _ = _
    unfold bX2_inheritedField_2
    rw [if_pos (nI_le (by omega) (by omega)), lib_p6 h.L, Option.bind_some, lib_l2 h.L hk, Option.bind_some, h.R.sup k he, a2, if_neg (nI_pos (by omega)), if_neg (nI_ge a1 (by omega)), lib_p11 h.L, Option.bind_some, lib_l19 h.L (by omega), Option.bind_some, hI _ a1]
    rfl
  | succ d ih =>
    intro i f hi hf
    obtain ⟨f, rfl⟩ : ∃ z, f = z + 1 := ⟨f - 1, by omega⟩
    show bX2_inheritedField_2 (lX2_inheritedField_2 f) a _ _ _ = _
    unfold bX2_inheritedField_2
    have hfb : fbG w v F k i (d + 1) = if bt (cl w v k 3) i && (F i).isSome then F i else fbG w v F k (i + 1) d := by
      unfold fbG
      rw [fst]
      by_cases q : (bt (cl w v k 3) i && (F i).isSome) = true
      · rw [if_pos q, if_pos q]; rfl
      · rw [if_neg q, if_neg q]
    have h38 : (bt (cl w v k 3) i && (F i).isSome) = false → fX2_inheritedField_38 (lX2_inheritedField_2 f) a (nI k) (nI i) (mm g I J Z) = some (oI (orS (fbG w v F k i (d + 1)) (F (spn w v k))), mm g I J Z) := by
      intro e
      unfold fX2_inheritedField_38
      rw [nI_add, hfb, e, if_ff]
      exact ih (i + 1) f (by omega) (by omega)
    rw [if_neg (nI_ge (by omega) (by omega)), lib_p7 h.L, Option.bind_some, lib_l3 h.L hk, Option.bind_some, tst_if (by omega), h.R.itf k he]
    cases hb : bt (cl w v k 3) i
    · rw [if_ff]
      exact h38 (by rw [hb]; rfl)
    · rw [if_tt, lib_p11 h.L, Option.bind_some, lib_l19 h.L (by omega), Option.bind_some, hI i (by omega)]
      cases hFi : F i with
      | none =>
        show (if (-2 : Int32) = -2 then _ else _) = _
        rw [if_pos rfl]
        exact h38 (by rw [hb, hFi]; rfl)
      | some m =>
        rw [if_neg (oI_ne (h.M.ne2 (hF i m hFi))), Option.bind_some, lib_l19 h.L (by omega), Option.bind_some, hI i (by omega), hfb, hb, hFi]
        rfl
theorem C_fl113 {an : Bool} {c : Nat} (hc : exC w v c = true) : ∀ (d k f : Nat) (I : Mem), CB g I a w v → 1 ≤ k → k + d = c + 1 → d < f → (∀ j, j < k → I (a + 19) j = oI (fdS w v nm an t j)) → (∀ j, k ≤ j → j < 10 → I (a + 19) j = oI (onF w v nm an t j)) →
    ∃ I', lX2_fieldFor_113 f a (nI c) (nI k) (mm g I J Z) = some (oI (fdS w v nm an t c), mm g I' J Z) ∧ Fa a I I' := by
  have hcl := exC_lt hc
  intro d
  induction d with
  | zero =>
    intro k f I h hk1 hk hf hI hI2
    obtain ⟨f, rfl⟩ : ∃ z, f = z + 1 := ⟨f - 1, by omega⟩
    refine ⟨I, ?_, Fa.refl⟩
    show bX2_fieldFor_113 (lX2_fieldFor_113 f) a _ _ _ = _
    unfold bX2_fieldFor_113
    rw [if_pos (nI_lt (by omega) (by omega)), lib_p11 h.L, Option.bind_some, lib_l19 h.L hcl, Option.bind_some, hI c (by omega)]
  | succ d ih =>
    intro k f I h hk1 hk hf hI hI2
    obtain ⟨f, rfl⟩ : ∃ z, f = z + 1 := ⟨f - 1, by omega⟩
    have hk10 : k < 10 := by omega
    show ∃ I', bX2_fieldFor_113 (lX2_fieldFor_113 f) a _ _ _ = _ ∧ _
    unfold bX2_fieldFor_113
    have h153 : ∀ I2, CB g I2 a w v → Fa a I I2 → (∀ j, j < k + 1 → I2 (a + 19) j = oI (fdS w v nm an t j)) → (∀ j, k + 1 ≤ j → j < 10 → I2 (a + 19) j = oI (onF w v nm an t j)) → ∃ I', fX2_fieldFor_153 (lX2_fieldFor_113 f) a (nI c) (nI k) (mm g I2 J Z) = some (oI (fdS w v nm an t c), mm g I' J Z) ∧ Fa a I I' := by
      intro I2 h2 hF e1 e2
      unfold fX2_fieldFor_153
      rw [nI_add]
      obtain ⟨I3, t1, t2⟩ := ih (k + 1) f I2 h2 (by omega) (by omega) (by omega) e1 e2
      exact ⟨I3, t1, hF.trans t2⟩
    rw [if_neg (nI_nlt (by omega) (by omega)), lib_p11 h.L, Option.bind_some, lib_l19 h.L hk10, Option.bind_some, hI2 k (Nat.le_refl _) hk10]
    cases hon : onF w v nm an t k with
    | some m =>
      obtain ⟨m1, m2, m3⟩ := onS_some hon
      have he : exC w v k = true := by rw [← m2]; exact (h.M.own m m1).2.2.2
      rw [if_neg (oI_ne (h.M.ne2 m1))]
      refine h153 I h Fa.refl (fun j hj => ?_) (fun j h1 h2 => hI2 j (by omega) h2)
      by_cases hjk : j = k
      · rw [hjk, hI2 k (Nat.le_refl _) hk10, fdS_eq h.C he, hon]
        rfl
      · exact hI j (by omega)
    | none =>
      show ∃ I', (if (-2 : Int32) = -2 then _ else _) = _ ∧ _
      rw [if_pos rfl, CB_cv h, C_isThere h.L h.R hk10, bd_some, bIf]
      cases he : exC w v k
      · rw [if_ff]
        refine h153 I h Fa.refl (fun j hj => ?_) (fun j h1 h2 => hI2 j (by omega) h2)
        by_cases hjk : j = k
        · rw [hjk, hI2 k (Nat.le_refl _) hk10, fdS_no he, hon]
        · exact hI j (by omega)
      · rw [if_tt, lib_p11 h.L, Option.bind_some, CB_cv h]
        unfold fX2_inheritedField
        rw [C_inhL h (by omega) he (F := fdS w v nm an t) (fun j m e => fdS_lt h.C j m e) hI k 0 fuel (by omega) (by unfold fuel; omega), bd_some, lib_t19 h.L hk10, Option.bind_some]
        refine h153 _ (h.fa fa_up) fa_up (fun j hj => ?_) (fun j h1 h2 => ?_)
        · rw [up2_at]
          by_cases hjk : j = k
          · rw [if_pos hjk, hjk, fdS_eq h.C he, hon, if_neg (by omega)]
            rfl
          · rw [if_neg hjk]; exact hI j (by omega)
        · rw [up2_at, if_neg (by omega)]; exact hI2 j (by omega) h2
theorem C_fl28 {c : Nat} (hc : exC w v c = true) : ∀ (d m f : Nat) (I : Mem), CB g I a w v → m + d = nmb w v → d < f → (∀ j, j < 10 → I (a + 19) j = oI (ls (fun m => isFd w v nm (decide (t = -3)) t m && decide (ow w v m = j)) m)) →
    ∃ I', lX2_fieldFor_28 f a (nI c) nm t (nI m) (mm g I J Z) = some (oI (fdS w v nm (decide (t = -3)) t c), mm g I' J Z) ∧ Fa a I I' := by
  have hcl := exC_lt hc
  intro d
  induction d with
  | zero =>
    intro m f I h hm hf hI
    obtain ⟨f, rfl⟩ : ∃ z, f = z + 1 := ⟨f - 1, by omega⟩
    obtain rfl : m = nmb w v := by omega
    show ∃ I', bX2_fieldFor_28 (lX2_fieldFor_28 f) a _ _ _ _ _ = _ ∧ _
    unfold bX2_fieldFor_28
    have hI2 : ∀ j, j < 10 → I (a + 19) j = oI (onF w v nm (decide (t = -3)) t j) := fun j hj => by rw [hI j hj, ls_onS h.M.uF]
    rw [c_size h, if_pos (nI_le (Nat.le_refl _) (by have := h.M.n40; omega))]
    refine C_fl113 hc c 1 fuel I h (by omega) (by omega) (by unfold fuel; omega) (fun j hj => ?_) (fun j _ hj => hI2 j hj)
    obtain rfl : j = 0 := by omega
    rw [hI2 0 (by omega), fdS_eq h.C h.C.ex0, if_pos rfl]
    cases onF w v nm (decide (t = -3)) t 0 <;> rfl
  | succ d ih =>
    intro m f I h hm hf hI
    obtain ⟨f, rfl⟩ : ∃ z, f = z + 1 := ⟨f - 1, by omega⟩
    have hm' : m < nmb w v := by omega
    have hn := h.M.n40
    obtain ⟨o1, o2, o3, o4⟩ := h.M.own m hm'
    show ∃ I', bX2_fieldFor_28 (lX2_fieldFor_28 f) a _ _ _ _ _ = _ ∧ _
    unfold bX2_fieldFor_28
    have hno : isFd w v nm (decide (t = -3)) t m = false → ∃ I', fX2_fieldFor_104 (lX2_fieldFor_28 f) a (nI c) nm t (nI m) (mm g I J Z) = some (oI (fdS w v nm (decide (t = -3)) t c), mm g I' J Z) ∧ Fa a I I' := by
      intro e
      unfold fX2_fieldFor_104
      rw [nI_add]
      refine ih (m + 1) f I h (by omega) (by omega) (fun j hj => ?_)
      rw [hI j hj, ls, e, Bool.false_and, if_ff]
    have hyes : isFd w v nm (decide (t = -3)) t m = true → ∃ I', fX2_fieldFor_87 (lX2_fieldFor_28 f) a (nI c) nm t (nI m) (mm g I J Z) = some (oI (fdS w v nm (decide (t = -3)) t c), mm g I' J Z) ∧ Fa a I I' := by
      intro e
      unfold fX2_fieldFor_87 fX2_fieldFor_104
      rw [lib_p11 h.L, Option.bind_some, c_own h hm', lib_t19 h.L o2, Option.bind_some, nI_add]
      obtain ⟨I3, t1, t2⟩ := ih (m + 1) f _ (h.fa fa_up) (by omega) (by omega) (fun j hj => by
        rw [up2_at, ls, e, Bool.true_and]
        by_cases hj2 : j = ow w v m
        · rw [if_pos hj2, decide_eq_true hj2.symm, if_tt, oI]
        · rw [if_neg hj2, decide_eq_false (fun q => hj2 q.symm), if_ff]; exact hI j hj)
      exact ⟨I3, t1, fa_up.trans t2⟩
    rw [c_size h, if_neg (nI_ge hm' (by omega)), c_knd h hm']
    by_cases hk : mb w v m 0 = 0
    · rw [if_pos hk, c_nam h hm']
      by_cases hnm : mb w v m 2 = nm
      · rw [if_pos hnm]
        by_cases ht : t = -3
        · rw [if_pos ht]
          exact hyes (by unfold isFd; rw [decide_eq_true (show mb w v m 0 = nI 0 from hk), decide_eq_true hnm, decide_eq_true ht]; rfl)
        · rw [if_neg ht, c_typ h hm']
          by_cases h5 : mb w v m 5 = t
          · rw [if_pos h5]
            exact hyes (by unfold isFd; rw [decide_eq_true (show mb w v m 0 = nI 0 from hk), decide_eq_true hnm, decide_eq_true h5]; simp)
          · rw [if_neg h5]
            exact hno (by unfold isFd; rw [decide_eq_false h5, decide_eq_false ht]; simp)
      · rw [if_neg hnm]
        exact hno (by unfold isFd; rw [decide_eq_false hnm]; simp)
    · rw [if_neg hk]
      exact hno (by unfold isFd; rw [decide_eq_false (show ¬ mb w v m 0 = nI 0 from hk)]; simp)
theorem C_fl3 {c : Nat} (hc : exC w v c = true) : ∀ (d k f : Nat) (I : Mem), CB g I a w v → k + d = 10 → d < f → (∀ j, j < k → I (a + 19) j = -2) →
    ∃ I', lX2_fieldFor_3 f a (nI c) nm t (nI k) (mm g I J Z) = some (oI (fdS w v nm (decide (t = -3)) t c), mm g I' J Z) ∧ Fa a I I' := by
  intro d
  induction d with
  | zero =>
    intro k f I h hk hf hI
    obtain ⟨f, rfl⟩ : ∃ z, f = z + 1 := ⟨f - 1, by omega⟩
    show ∃ I', bX2_fieldFor_3 (lX2_fieldFor_3 f) a _ _ _ _ _ = _ ∧ _
    unfold bX2_fieldFor_3
    rw [if_pos (nI_le (by omega) (by omega))]
    have hn := h.M.n40
    exact C_fl28 hc (nmb w v) 0 fuel I h (by omega) (by unfold fuel; omega) (fun j hj => hI j (by omega))
  | succ d ih =>
    intro k f I h hk hf hI
    obtain ⟨f, rfl⟩ : ∃ z, f = z + 1 := ⟨f - 1, by omega⟩
    show ∃ I', bX2_fieldFor_3 (lX2_fieldFor_3 f) a _ _ _ _ _ = _ ∧ _
    unfold bX2_fieldFor_3
    rw [if_neg (nI_ge (by omega) (by omega)), lib_p11 h.L, Option.bind_some, lib_t19 h.L (by omega), Option.bind_some, nI_add]
    obtain ⟨I3, t1, t2⟩ := ih (k + 1) f _ (h.fa fa_up) (by omega) (by omega) (fun j hj => by
      rw [up2_at]
      by_cases hj2 : j = k
      · rw [if_pos hj2]
      · rw [if_neg hj2]; exact hI j (by omega))
    exact ⟨I3, t1, fa_up.trans t2⟩
theorem C_fieldFor (h : CB g I a w v) {c : Nat} (hc : exC w v c = true) : ∃ I', fX2_fieldFor a (nI c) nm t (mm g I J Z) = some (oI (fdS w v nm (decide (t = -3)) t c), mm g I' J Z) ∧ Fa a I I' := by
  unfold fX2_fieldFor
  exact C_fl3 hc 10 0 fuel I h (by omega) (by unfold fuel; omega) (fun j hj => absurd hj (by omega))
end Cf
