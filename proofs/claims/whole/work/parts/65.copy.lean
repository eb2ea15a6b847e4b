/-! ===== the class: copies of symbols and clients ===== -/
section Cy
variable {g : Gr} {I I' : Mem} {J : Nat → Nat → Int64} {Z : Option Nat} {s t : Nat}
theorem C_symCopy (hs : g.1 s = 8) (ht : g.1 t = 8) (hne : t ≠ s) (h0 : I t 0 = 0 ∨ I t 0 = 1) : ∃ I', fX7_copyFrom s t (mm g I J Z) = some ((), mm g I' J Z) ∧ (∀ x, x ≠ s → I' x = I x) ∧ ∀ j, j < 7 → I' s j = I t j := by
  refine ⟨up2 (up2 (up2 (up2 (up2 (up2 (up2 I s 0 (I t 0)) s 1 (I t 1)) s 2 (I t 2)) s 3 (I t 3)) s 4 (I t 4)) s 5 (I t 5)) s 6 (I t 6), ?_, fun x hx => ?_, fun j hj => ?_⟩
  · unfold fX7_copyFrom
    rw [gI_m ht, Option.bind_some, sym_s0 hs h0, Option.bind_some, gI_m ht, Option.bind_some, up2_ne hne, sym_s1 hs, Option.bind_some, gI_m ht, Option.bind_some, up2_ne hne, up2_ne hne, sym_s2 hs, Option.bind_some, gI_m ht, Option.bind_some, up2_ne hne, up2_ne hne, up2_ne hne, sym_s3 hs, Option.bind_some, gI_m ht, Option.bind_some, up2_ne hne, up2_ne hne, up2_ne hne, up2_ne hne, sym_s4 hs, Option.bind_some, gI_m ht, Option.bind_some, up2_ne hne, up2_ne hne, up2_ne hne, up2_ne hne, up2_ne hne, sym_s5 hs, Option.bind_some, gI_m ht, Option.bind_some, up2_ne hne, up2_ne hne, up2_ne hne, up2_ne hne, up2_ne hne, up2_ne hne, sym_s6 hs, Option.bind_some]
  · rw [up2_ne hx, up2_ne hx, up2_ne hx, up2_ne hx, up2_ne hx, up2_ne hx, up2_ne hx]
  · rcases (by omega : j = 0 ∨ j = 1 ∨ j = 2 ∨ j = 3 ∨ j = 4 ∨ j = 5 ∨ j = 6) with e | e | e | e | e | e | e <;> subst e <;> simp [up2]
theorem C_clCopy {p r : Nat} (hp : ClG g p) (hr : ClG g r) (hne : r ≠ p) (hn2 : r + 1 ≠ p) (hn3 : r ≠ p + 1) (h0 : I (r + 1) 0 = 0 ∨ I (r + 1) 0 = 1) : ∃ I', fX0_copyFrom p r (mm g I J Z) = some ((), mm g I' J Z) ∧ (∀ x, x ≠ p → x ≠ p + 1 → I' x = I x) ∧ (∀ j, j < 8 → I' p j = I r j) ∧ ∀ j, j < 7 → I' (p + 1) j = I (r + 1) j := by
  have hfr : ∀ x, x ≠ p → (up2 (up2 (up2 (up2 (up2 (up2 (up2 (up2 I p 0 (I r 0)) p 1 (I r 1)) p 2 (I r 2)) p 3 (I r 3)) p 4 (I r 4)) p 5 (I r 5)) p 6 (I r 6)) p 7 (I r 7)) x = I x := fun x hx => by rw [up2_ne hx, up2_ne hx, up2_ne hx, up2_ne hx, up2_ne hx, up2_ne hx, up2_ne hx, up2_ne hx]
  obtain ⟨I1, e1, e2, e3⟩ := C_symCopy (I := up2 (up2 (up2 (up2 (up2 (up2 (up2 (up2 I p 0 (I r 0)) p 1 (I r 1)) p 2 (I r 2)) p 3 (I r 3)) p 4 (I r 4)) p 5 (I r 5)) p 6 (I r 6)) p 7 (I r 7)) (J := J) (Z := Z) (s := p + 1) (t := r + 1) hp.2.2 hr.2.2 (by omega) (by rw [hfr _ hn2]; exact h0)
  refine ⟨I1, ?_, fun x a b => by rw [e2 x b, hfr x a], fun j hj => ?_, fun j hj => by rw [e3 j hj, hfr _ hn2]⟩
  · unfold fX0_copyFrom
    rw [gI_m hr.1, Option.bind_some, pI_m hp.1, Option.bind_some, gI_m hr.1, Option.bind_some, up2_ne hne, pI_m hp.1, Option.bind_some, gI_m hr.1, Option.bind_some, up2_ne hne, up2_ne hne, pI_m hp.1, Option.bind_some, gI_m hr.1, Option.bind_some, up2_ne hne, up2_ne hne, up2_ne hne, pI_m hp.1, Option.bind_some, gI_m hr.1, Option.bind_some, up2_ne hne, up2_ne hne, up2_ne hne, up2_ne hne, pI_m hp.1, Option.bind_some, gI_m hr.1, Option.bind_some, up2_ne hne, up2_ne hne, up2_ne hne, up2_ne hne, up2_ne hne, pI_m hp.1, Option.bind_some, gI_m hr.1, Option.bind_some, up2_ne hne, up2_ne hne, up2_ne hne, up2_ne hne, up2_ne hne, up2_ne hne, pI_m hp.1, Option.bind_some, gI_m hr.1, Option.bind_some, up2_ne hne, up2_ne hne, up2_ne hne, up2_ne hne, up2_ne hne, up2_ne hne, up2_ne hne, pI_m hp.1, Option.bind_some, gP_m hp.1 hp.2.1, Option.bind_some, gP_m hr.1 hr.2.1, Option.bind_some, sym_cv hp.2.2, e1, bd_some]
  · rw [e2 p (by omega)]
    rcases (by omega : j = 0 ∨ j = 1 ∨ j = 2 ∨ j = 3 ∨ j = 4 ∨ j = 5 ∨ j = 6 ∨ j = 7) with e | e | e | e | e | e | e | e <;> subst e <;> simp [up2]
end Cy
