/-! ===== the reference: saves ===== -/
section Sv
variable {g : Gr} {R : Nat} {I I' : Mem} {J : Nat → Nat → Int64} {Z : Option Nat}
theorem ModG.ld1 (hG : ModG g R) {k : Nat} (hk : k < 1155) : ldI (R + 1) (nI k) (mm g I J Z) = some (I (R + 1) k) := ldI_m hG.2.2.2.2.2.2.2.2.1.1 (by rw [hG.2.2.2.2.2.2.2.2.1.2]; exact hk) (by omega)
theorem ModG.st1 (hG : ModG g R) {k : Nat} (hk : k < 1155) {x : Int32} : stI (R + 1) (nI k) x (mm g I J Z) = some (mm g (up2 I (R + 1) k x) J Z) := stI_m hG.2.2.2.2.2.2.2.2.1.1 (by rw [hG.2.2.2.2.2.2.2.2.1.2]; exact hk) (by omega)
theorem ModG.ld2 (hG : ModG g R) {k : Nat} (hk : k < 5775) : ldI (R + 2) (nI k) (mm g I J Z) = some (I (R + 2) k) := ldI_m hG.2.2.2.2.2.2.2.2.2.1.1 (by rw [hG.2.2.2.2.2.2.2.2.2.1.2]; exact hk) (by omega)
theorem ModG.st2 (hG : ModG g R) {k : Nat} (hk : k < 5775) {x : Int32} : stI (R + 2) (nI k) x (mm g I J Z) = some (mm g (up2 I (R + 2) k x) J Z) := stI_m hG.2.2.2.2.2.2.2.2.2.1.1 (by rw [hG.2.2.2.2.2.2.2.2.2.1.2]; exact hk) (by omega)
theorem M_sv51 (hG : ModG g R) {n : Nat} (hn : n < 5) : ∀ (d i f : Nat) (I : Mem), i + d = 1155 → d < f → I R 2 = nI n → ∃ I', lX9_saves_51 f R (nI i) (mm g I J Z) = some ((), mm g I' J Z) ∧ (∀ x, x ≠ R → x ≠ R + 2 → I' x = I x) ∧ (∀ k, k ≠ 2 → I' R k = I R k) ∧ I' R 2 = nI (n + 1) ∧ ∀ j, I' (R + 2) j = if 1155 * n + i ≤ j ∧ j < 1155 * n + 1155 then I (R + 1) (j - 1155 * n) else I (R + 2) j := by
  intro d
  induction d with
  | zero =>
    intro i f I hi hf h2
    obtain ⟨f, rfl⟩ : ∃ z, f = z + 1 := ⟨f - 1, by omega⟩
    refine ⟨up2 I R 2 (nI (n + 1)), ?_, fun x a _ => up2_ne a, fun k hk => by rw [up2_at, if_neg hk], by rw [up2_at, if_pos rfl], fun j => by rw [up2_ne (by omega), if_neg (by omega)]⟩
    show bX9_saves_51 (lX9_saves_51 f) R _ _ = _
    unfold bX9_saves_51
    rw [if_pos (nI_le (by omega) (by omega)), gI_m hG.1, Option.bind_some, h2, nI_add, pI_m hG.1, Option.bind_some]
  | succ d ih =>
    intro i f I hi hf h2
    obtain ⟨f, rfl⟩ : ∃ z, f = z + 1 := ⟨f - 1, by omega⟩
    show ∃ I', bX9_saves_51 (lX9_saves_51 f) R _ _ = _ ∧ _
    unfold bX9_saves_51
    rw [if_neg (nI_ge (by omega) (by omega)), hG.p1, Option.bind_some, gI_m hG.1, Option.bind_some, hG.p0, Option.bind_some, hG.ld1 (by omega), Option.bind_some, h2, pk_mul, nI_add, hG.st2 (by omega), Option.bind_some, nI_add]
    obtain ⟨I3, t1, t2, t3, t4, t5⟩ := ih (i + 1) f (up2 I (R + 2) (1155 * n + i) (I (R + 1) i)) (by omega) (by omega) (by rw [up2_ne (by omega)]; exact h2)
    refine ⟨I3, t1, fun x a b => by rw [t2 x a b, up2_ne b], fun k hk => by rw [t3 k hk, up2_ne (by omega)], t4, fun j => ?_⟩
    rw [t5 j, up2_ne (by omega : R + 1 ≠ R + 2), up2_at]
    by_cases e : j = 1155 * n + i
    · subst e
      rw [if_neg (by omega), if_pos rfl, if_pos (by omega), show 1155 * n + i - 1155 * n = i from by omega]
    · rw [if_neg e]
      by_cases q : 1155 * n + (i + 1) ≤ j ∧ j < 1155 * n + 1155
      · rw [if_pos q, if_pos (by omega)]
      · rw [if_neg q, if_neg (by omega)]
theorem M_sv10 (hG : ModG g R) : ∀ (d i f : Nat) (I : Mem), i + d = 4620 → d < f → I R 2 = nI 5 → ∃ I', lX9_saves_10 f R (nI i) (mm g I J Z) = fX9_saves_49 R (mm g I' J Z) ∧ (∀ x, x ≠ R → x ≠ R + 2 → I' x = I x) ∧ (∀ k, k ≠ 2 → I' R k = I R k) ∧ I' R 2 = nI 4 ∧ ∀ j, I' (R + 2) j = if i ≤ j ∧ j < 4620 then I (R + 2) (j + 1155) else I (R + 2) j := by
  intro d
  induction d with
  | zero =>
    intro i f I hi hf h2
    obtain ⟨f, rfl⟩ : ∃ z, f = z + 1 := ⟨f - 1, by omega⟩
    refine ⟨up2 I R 2 (nI 4), ?_, fun x a _ => up2_ne a, fun k hk => by rw [up2_at, if_neg hk], by rw [up2_at, if_pos rfl], fun j => by rw [up2_ne (by omega), if_neg (by omega)]⟩
    show bX9_saves_10 (lX9_saves_10 f) R _ _ = _
    unfold bX9_saves_10
    rw [if_pos (nI_le (by omega) (by omega)), gI_m hG.1, Option.bind_some, h2, show (nI 5 - nI 1) = nI 4 from by decide, pI_m hG.1, Option.bind_some]
  | succ d ih =>
    intro i f I hi hf h2
    obtain ⟨f, rfl⟩ : ∃ z, f = z + 1 := ⟨f - 1, by omega⟩
    show ∃ I', bX9_saves_10 (lX9_saves_10 f) R _ _ = _ ∧ _
    unfold bX9_saves_10
    rw [if_neg (nI_ge (by omega) (by omega)), hG.p1, Option.bind_some, Option.bind_some, nI_add, hG.ld2 (by omega), Option.bind_some, hG.st2 (by omega), Option.bind_some, nI_add]
    obtain ⟨I3, t1, t2, t3, t4, t5⟩ := ih (i + 1) f (up2 I (R + 2) i (I (R + 2) (i + 1155))) (by omega) (by omega) (by rw [up2_ne (by omega)]; exact h2)
    refine ⟨I3, t1, fun x a b => by rw [t2 x a b, up2_ne b], fun k hk => by rw [t3 k hk, up2_ne (by omega)], t4, fun j => ?_⟩
    rw [t5 j]
    by_cases q : i + 1 ≤ j ∧ j < 4620
    · rw [if_pos q, if_pos (by omega), up2_at, if_neg (by omega)]
    · rw [if_neg q, up2_at]
      by_cases e : j = i
      · subst e; rw [if_pos rfl, if_pos (by omega)]
      · rw [if_neg e, if_neg (by omega)]
/-- the row is kept behind those that are; of five the oldest goes -/
theorem M_saves (hG : ModG g R) {n : Nat} (hn : n ≤ 5) (h2 : I R 2 = nI n) : ∃ I', fX9_saves R (mm g I J Z) = some ((), mm g I' J Z) ∧ (∀ x, x ≠ R → x ≠ R + 2 → I' x = I x) ∧ (∀ k, k ≠ 2 → I' R k = I R k) ∧ I' R 2 = nI (if n = 5 then 5 else n + 1) ∧ (∀ i, i < 1155 → I' (R + 2) (1155 * (if n = 5 then 4 else n) + i) = I (R + 1) i) ∧ ∀ j i, j < (if n = 5 then 4 else n) → i < 1155 → I' (R + 2) (1155 * j + i) = I (R + 2) (1155 * (if n = 5 then j + 1 else j) + i) := by
  unfold fX9_saves
  rw [gI_m hG.1, Option.bind_some, h2]
  by_cases h5 : n = 5
  · subst h5
    rw [if_pos rfl, if_pos rfl, if_pos rfl]
    obtain ⟨I1, a1, a2, a3, a4, a5⟩ := M_sv10 (J := J) (Z := Z) hG 4620 0 fuel I (by omega) (by unfold fuel; omega) h2
    obtain ⟨I2, b1, b2, b3, b4, b5⟩ := M_sv51 (J := J) (Z := Z) hG (n := 4) (by omega) 1155 0 fuel I1 (by omega) (by unfold fuel; omega) a4
    refine ⟨I2, a1.trans b1, fun x p q => (b2 x p q).trans (a2 x p q), fun k hk => (b3 k hk).trans (a3 k hk), b4, fun i hi => ?_, fun j i hj hi => ?_⟩
    · rw [b5, if_pos (by omega), a2 _ (by omega) (by omega), show 1155 * 4 + i - 1155 * 4 = i from by omega]
    · rw [b5, if_neg (by omega), a5, if_pos (by omega), if_pos rfl, show 1155 * j + i + 1155 = 1155 * (j + 1) + i from by omega]
  · rw [if_neg (fun q => h5 (nI_inj (by omega) (by omega) q)), if_neg h5, if_neg h5]
    obtain ⟨I2, b1, b2, b3, b4, b5⟩ := M_sv51 (J := J) (Z := Z) hG (n := n) (by omega) 1155 0 fuel I (by omega) (by unfold fuel; omega) h2
    refine ⟨I2, b1, b2, b3, b4, fun i hi => ?_, fun j i hj hi => ?_⟩
    · rw [b5, if_pos (by omega), show 1155 * n + i - 1155 * n = i from by omega]
    · rw [b5, if_neg (by
        have : 1155 * (j + 1) ≤ 1155 * n := Nat.mul_le_mul_left _ hj
        omega), if_neg h5]
end Sv
