/-! ===== the class: copies of symbols and clients ===== -/
section Cy
variable {g : Gr} {I I' : Mem} {J : Nat → Nat → Int64} {Z : Option Nat} {s t : Nat}
theorem C_symCopy (hs : g.1 s = 8) (ht : g.1 t = 8) (hne : t ≠ s) (h0 : I t 0 = 0 ∨ I t 0 = 1) : ∃ I', fX7_copyFrom s t (mm g I J Z) = some ((), mm g I' J Z) ∧ (∀ x, x ≠ s → I' x = I x) ∧ ∀ j, j < 7 → I' s j = I t j := by
  refine ⟨up2 (up2 (up2 (up2 (up2 (up2 (up2 I s 0 (I t 0)) s 1 (I t 1)) s 2 (I t 2)) s 3 (I t 3)) s 4 (I t 4)) s 5 (I t 5)) s 6 (I t 6), ?_, fun x hx => ?_, fun j hj => ?_⟩
  · unfold fX7_copyFrom
    rw [gI_m ht, Option.bind_some, sym_s0 hs h0, Option.bind_some, gI_m ht, Option.bind_some, up2_ne hne, sym_s1 hs, Option.bind_some, gI_m ht, Option.bind_some, up2_ne hne, up2_ne hne, sym_s2 hs, Option.bind_some, gI_m ht, Option.bind_some, up2_ne hne, up2_ne hne, up2_ne hne, sym_s3 hs, Option.bind_some, gI_m ht, Option.bind_some, up2_ne hne, up2_ne hne, up2_ne hne, up2_ne hne, sym_s4 hs, Option.bind_some, gI_m ht, Option.bind_some, up2_ne hne, up2_ne hne, up2_ne hne, up2_ne hne, up2_ne hne, sym_s5 hs, Option.bind_some, gI_m ht, Option.bind_some, up2_ne hne, up2_ne hne, up2_ne hne, up2_ne hne, up2_ne hne, up2_ne hne, sym_s6 hs, Option.bind_some]
  · rw [up2_ne hx, up2_ne hx, up2_ne hx, up2_ne hx, up2_ne hx, up2_ne hx, up2_ne hx]
  · rcases (by omega : j = 0 ∨ j = 1 ∨ j = 2 ∨ j = 3 ∨ j = 4 ∨ j = 5 ∨ j = 6) with e | e | e | e | e | e | e <;> subst e <;> simp [up2]
end Cy
