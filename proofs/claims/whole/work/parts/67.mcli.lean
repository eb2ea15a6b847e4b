/-! ===== the reference: takes, keepsReference, lies ===== -/
section Tk
variable {g : Gr} {R : Nat} {I I' : Mem} {J : Nat → Nat → Int64} {Z : Option Nat}
theorem M_takesL (hG : ModG g R) {n : Nat} (hn : n < 12) : ∀ (d i f : Nat) (I : Mem), i + d = 16 → d < f → (∀ j, j < i → I (R + 5) j = I (R + 1) (963 + 16 * n + j)) → ∃ I', lX9_takes_2 f R (nI n) (nI i) (mm g I J Z) = some ((), mm g I' J Z) ∧ (∀ x, x ≠ R + 5 → I' x = I x) ∧ ∀ j, j < 16 → I' (R + 5) j = I (R + 1) (963 + 16 * n + j) := by
  intro d
  induction d with
  | zero =>
    intro i f I hi hf hI
    obtain ⟨f, rfl⟩ : ∃ z, f = z + 1 := ⟨f - 1, by omega⟩
    refine ⟨I, ?_, fun _ _ => rfl, fun j hj => hI j (by omega)⟩
    show bX9_takes_2 (lX9_takes_2 f) R _ _ _ = _
    unfold bX9_takes_2
    rw [if_pos (nI_le (by omega) (by omega))]
  | succ d ih =>
    intro i f I hi hf hI
    obtain ⟨f, rfl⟩ : ∃ z, f = z + 1 := ⟨f - 1, by omega⟩
    show ∃ I', bX9_takes_2 (lX9_takes_2 f) R _ _ _ = _ ∧ _
    unfold bX9_takes_2 fX9_client
    rw [if_neg (nI_ge (by omega) (by omega)), hG.p15, Option.bind_some, hG.p0, Option.bind_some, bd_some, pk_mul, nI_add, nI_add, hG.ld1 (by omega), Option.bind_some, hG.st5 (by omega), Option.bind_some, nI_add]
    obtain ⟨I3, t1, t2, t3⟩ := ih (i + 1) f (up2 I (R + 5) i (I (R + 1) (963 + 16 * n + i))) (by omega) (by omega) (fun j hj => by
      rw [up2_at, up2_ne (by omega)]
      by_cases e : j = i
      · rw [if_pos e, e]
      · rw [if_neg e]; exact hI j (by omega))
    refine ⟨I3, t1, fun x hx => (t2 x hx).trans (up2_ne hx), fun j hj => ?_⟩
    rw [t3 j hj, up2_ne (by omega)]
theorem M_takes (hG : ModG g R) {n : Nat} (hn : n < 12) : ∃ I', fX9_takes R (nI n) (mm g I J Z) = some ((), mm g I' J Z) ∧ (∀ x, x ≠ R + 5 → I' x = I x) ∧ ∀ j, j < 16 → I' (R + 5) j = I (R + 1) (963 + 16 * n + j) := by
  unfold fX9_takes
  exact M_takesL hG hn 16 0 fuel I (by omega) (by unfold fuel; omega) (fun j hj => absurd hj (by omega))
theorem M_keepsL (hG : ModG g R) : ∀ (d i f : Nat) (I : Mem), i + d = 8 → d < f → ∃ I', lX9_keepsReference_2 f R (nI i) (mm g I J Z) = some ((), mm g I' J Z) ∧ (∀ x, x ≠ R + 5 → I' x = I x) ∧ ∀ j, I' (R + 5) j = if 8 + i ≤ j ∧ j < 16 then I (R + 6) (j - 8) else I (R + 5) j := by
  intro d
  induction d with
  | zero =>
    intro i f I hi hf
    obtain ⟨f, rfl⟩ : ∃ z, f = z + 1 := ⟨f - 1, by omega⟩
    refine ⟨I, ?_, fun _ _ => rfl, fun j => by rw [if_neg (by omega)]⟩
    show bX9_keepsReference_2 (lX9_keepsReference_2 f) R _ _ = _
    unfold bX9_keepsReference_2
    rw [if_pos (nI_le (by omega) (by omega))]
  | succ d ih =>
    intro i f I hi hf
    obtain ⟨f, rfl⟩ : ∃ z, f = z + 1 := ⟨f - 1, by omega⟩
    show ∃ I', bX9_keepsReference_2 (lX9_keepsReference_2 f) R _ _ = _ ∧ _
    unfold bX9_keepsReference_2
    rw [if_neg (nI_ge (by omega) (by omega)), hG.p15, Option.bind_some, hG.p16, Option.bind_some, hG.ld6 (by omega), Option.bind_some, nI_add, hG.st5 (by omega), Option.bind_some, nI_add]
    obtain ⟨I3, t1, t2, t3⟩ := ih (i + 1) f (up2 I (R + 5) (8 + i) (I (R + 6) i)) (by omega) (by omega)
    refine ⟨I3, t1, fun x hx => (t2 x hx).trans (up2_ne hx), fun j => ?_⟩
    rw [t3 j, up2_ne (by omega : R + 6 ≠ R + 5), up2_at]
    by_cases q : 8 + (i + 1) ≤ j ∧ j < 16
    · rw [if_pos q, if_pos (by omega)]
    · rw [if_neg q]
      by_cases e : j = 8 + i
      · rw [if_pos e, if_pos (by omega), e, show 8 + i - 8 = i from by omega]
      · rw [if_neg e, if_neg (by omega)]
theorem M_keeps (hG : ModG g R) : ∃ I', fX9_keepsReference R (mm g I J Z) = some ((), mm g I' J Z) ∧ (∀ x, x ≠ R + 5 → I' x = I x) ∧ ∀ j, I' (R + 5) j = if 8 ≤ j ∧ j < 16 then I (R + 6) (j - 8) else I (R + 5) j := by
  unfold fX9_keepsReference
  exact M_keepsL hG 8 0 fuel I (by omega) (by unfold fuel; omega)
end Tk
