/-! ===== the reference: undo ===== -/
section Un
variable {g : Gr} {R : Nat} {I I' : Mem} {J : Nat → Nat → Int64} {Z : Option Nat}
theorem M_un33 (hG : ModG g R) {n : Nat} (hn : n < 5) : ∀ (d i f : Nat) (I : Mem), i + d = 1155 → d < f → I R 2 = nI n → ∃ I', lX9_undo_33 f R (nI i) (mm g I J Z) = some (nI n, mm g I' J Z) ∧ (∀ x, x ≠ R + 1 → I' x = I x) ∧ ∀ j, I' (R + 1) j = if i ≤ j ∧ j < 1155 then I (R + 2) (1155 * n + j) else I (R + 1) j := by
  intro d
  induction d with
  | zero =>
    intro i f I hi hf h2
    obtain ⟨f, rfl⟩ : ∃ z, f = z + 1 := ⟨f - 1, by omega⟩
    refine ⟨I, ?_, fun _ _ => rfl, fun j => by rw [if_neg (by omega)]⟩
    show bX9_undo_33 (lX9_undo_33 f) R _ _ = _
    unfold bX9_undo_33
    rw [if_pos (nI_le (by omega) (by omega)), gI_m hG.1, Option.bind_some, h2]
  | succ d ih =>
    intro i f I hi hf h2
    obtain ⟨f, rfl⟩ : ∃ z, f = z + 1 := ⟨f - 1, by omega⟩
    show ∃ I', bX9_undo_33 (lX9_undo_33 f) R _ _ = _ ∧ _
    unfold bX9_undo_33
    rw [if_neg (nI_ge (by omega) (by omega)), hG.p0, Option.bind_some, hG.p1, Option.bind_some, gI_m hG.1, Option.bind_some, h2, pk_mul, nI_add, hG.ld2 (by omega), Option.bind_some, hG.st1 (by omega), Option.bind_some, nI_add]
    obtain ⟨I3, t1, t2, t3⟩ := ih (i + 1) f (up2 I (R + 1) i (I (R + 2) (1155 * n + i))) (by omega) (by omega) (by rw [up2_ne (by omega)]; exact h2)
    refine ⟨I3, t1, fun x hx => (t2 x hx).trans (up2_ne hx), fun j => ?_⟩
    rw [t3 j, up2_ne (by omega : R + 2 ≠ R + 1), up2_at]
    by_cases q : i + 1 ≤ j ∧ j < 1155
    · rw [if_pos q, if_pos (by omega)]
    · rw [if_neg q]
      by_cases e : j = i
      · rw [if_pos e, if_pos (by omega), e]
      · rw [if_neg e, if_neg (by omega)]
theorem M_undo0 (hG : ModG g R) (h2 : I R 2 = nI 0) : fX9_undo R (mm g I J Z) = some (nI 0, mm g (up2 I R 3 (nI 1)) J Z) := by
  unfold fX9_undo fX9_undo_13
  rw [gI_m hG.1, Option.bind_some, h2, if_pos nI_0, M_cv hG, M_refused hG, bd_some, bIf, if_pos (by decide)]
theorem M_undo (hG : ModG g R) {n : Nat} (hn : n < 5) (h2 : I R 2 = nI (n + 1)) : ∃ I', fX9_undo R (mm g I J Z) = some (nI n, mm g I' J Z) ∧ (∀ x, x ≠ R → x ≠ R + 1 → I' x = I x) ∧ (∀ k, k ≠ 2 → k ≠ 3 → I' R k = I R k) ∧ I' R 2 = nI n ∧ I' R 3 = nI 0 ∧ ∀ j, j < 1155 → I' (R + 1) j = I (R + 2) (1155 * n + j) := by
  obtain ⟨I3, t1, t2, t3⟩ := M_un33 (J := J) (Z := Z) hG hn 1155 0 fuel (up2 (up2 I R 3 (nI 0)) R 2 (nI n)) (by omega) (by unfold fuel; omega) (by rw [up2_at, if_pos rfl])
  refine ⟨I3, ?_, fun x a b => by rw [t2 x b, up2_ne a, up2_ne a], fun k a b => by rw [t2 R (by omega), up2_at, if_neg a, up2_at, if_neg b], by rw [t2 R (by omega), up2_at, if_pos rfl], by rw [t2 R (by omega), up2_at, if_neg (by decide), up2_at, if_pos rfl], fun j hj => by rw [t3 j, if_pos (by omega), up2_ne (by omega), up2_ne (by omega)]⟩
  unfold fX9_undo fX9_undo_13
  rw [gI_m hG.1, Option.bind_some, h2, if_neg (nI_ne0 (by omega) (by omega)), M_cv hG, M_refused hG, bd_some, bIf, if_neg (by decide), gI_m hG.1, Option.bind_some, up2_at, if_neg (by decide), h2, show nI (n + 1) - nI 1 = nI n from nI_pred n, pI_m hG.1, Option.bind_some]
  exact t1
end Un
