/-! ===== the reference: lies ===== -/
section Ly
variable {g : Gr} {R : Nat} {I I' : Mem} {J : Nat → Nat → Int64} {Z : Option Nat}
theorem M_liesL (hG : ModG g R) {n : Nat} (hn : n < 12) : ∀ (d i f : Nat) (I : Mem), i + d = 16 → d < f → ∃ I', lX9_lies_2 f R (nI n) (nI i) (mm g I J Z) = some ((), mm g I' J Z) ∧ (∀ x, x ≠ R + 1 → I' x = I x) ∧ ∀ j, I' (R + 1) j = if 963 + 16 * n + i ≤ j ∧ j < 963 + 16 * n + 16 then I (R + 5) (j - (963 + 16 * n)) else I (R + 1) j := by
  intro d
  induction d with
  | zero =>
    intro i f I hi hf
    obtain ⟨f, rfl⟩ : ∃ z, f = z + 1 := ⟨f - 1, by omega⟩
    refine ⟨I, ?_, fun _ _ => rfl, fun j => by rw [if_neg (by omega)]⟩
    show bX9_lies_2 (lX9_lies_2 f) R _ _ _ = _
    unfold bX9_lies_2
    rw [if_pos (nI_le (by omega) (by omega))]
  | succ d ih =>
    intro i f I hi hf
    obtain ⟨f, rfl⟩ : ∃ z, f = z + 1 := ⟨f - 1, by omega⟩
    show ∃ I', bX9_lies_2 (lX9_lies_2 f) R _ _ _ = _ ∧ _
    unfold bX9_lies_2 fX9_client
    rw [if_neg (nI_ge (by omega) (by omega)), hG.p0, Option.bind_some, bd_some, hG.p15, Option.bind_some, hG.cl (by omega), Option.bind_some, pk_mul, nI_add, nI_add, hG.st1 (by omega), Option.bind_some, nI_add]
    obtain ⟨I3, t1, t2, t3⟩ := ih (i + 1) f (up2 I (R + 1) (963 + 16 * n + i) (I (R + 5) i)) (by omega) (by omega)
    refine ⟨I3, t1, fun x hx => (t2 x hx).trans (up2_ne hx), fun j => ?_⟩
    rw [t3 j, up2_ne (by omega : R + 5 ≠ R + 1), up2_at]
    by_cases q : 963 + 16 * n + (i + 1) ≤ j ∧ j < 963 + 16 * n + 16
    · rw [if_pos q, if_pos (by omega)]
    · rw [if_neg q]
      by_cases e : j = 963 + 16 * n + i
      · rw [if_pos e, if_pos (by omega), e, show 963 + 16 * n + i - (963 + 16 * n) = i from by omega]
      · rw [if_neg e, if_neg (by omega)]
theorem M_lies (hG : ModG g R) {n : Nat} (hn : n < 12) : ∃ I', fX9_lies R (nI n) (mm g I J Z) = some ((), mm g I' J Z) ∧ (∀ x, x ≠ R + 1 → I' x = I x) ∧ ∀ j, I' (R + 1) j = if 963 + 16 * n ≤ j ∧ j < 963 + 16 * n + 16 then I (R + 5) (j - (963 + 16 * n)) else I (R + 1) j := by
  unfold fX9_lies
  exact M_liesL hG hn 16 0 fuel I (by omega) (by unfold fuel; omega)
end Ly
